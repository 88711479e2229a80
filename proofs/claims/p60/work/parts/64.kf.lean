/-! the methods of the class as predicates, and their contracts -/
def k_X7_matched_107 (Q : Nat → cS → Prop) (dp : Nat) (mc ms : Nat) (R11 : Nat → Nat → Nat → Nat → Int32 → Nat → Nat → cS → Prop) (x0 : Nat) (x1 : Nat) (x2 : Nat) (x3 : Nat) (x4 : Int32) (cd dd : Nat) (S : cS) : Prop :=
∀ x4_7 : Int32, x4_7 = x4 + nI 1 → R11 x0 x1 x2 x3 x4_7 cd dd S
def k_X7_matched_101 (Q : Nat → cS → Prop) (dp : Nat) (mc ms : Nat) (R11 : Nat → Nat → Nat → Nat → Int32 → Nat → Nat → cS → Prop) (R46 : Nat → Nat → Nat → Nat → Int32 → Nat → Int32 → Nat → Nat → cS → Prop) (x0 : Nat) (x1 : Nat) (x2 : Nat) (x3 : Nat) (x4 : Int32) (x5 : Nat) (x6 : Int32) (cd dd : Nat) (S : cS) : Prop :=
∀ x6_13 : Int32, x6_13 = x6 + nI 1 → R46 x0 x1 x2 x3 x4 x5 x6_13 cd dd S
def k_X7_matched_46 (Q : Nat → cS → Prop) (dp : Nat) (mc ms : Nat) (R11 : Nat → Nat → Nat → Nat → Int32 → Nat → Nat → cS → Prop) (R46 : Nat → Nat → Nat → Nat → Int32 → Nat → Int32 → Nat → Nat → cS → Prop) (x0 : Nat) (x1 : Nat) (x2 : Nat) (x3 : Nat) (x4 : Int32) (x5 : Nat) (x6 : Int32) (cd dd : Nat) (S : cS) : Prop :=
cA S x5 2 ∧ ((∃ b10 : Nat, cr S 64 x5 = some b10 ∧ (cA S b10 8 ∧ ((cd ≤ mc ∧ dd ≤ ms) ∧ (k_X8_size (fun r_11 S_11 => 
((r_11 ≤ x6 →
  k_X7_matched_107 Q dp mc ms R11 x0 x1 x2 x3 x4 cd dd S_11) ∧
 (¬ r_11 ≤ x6 →
  cA S_11 x5 2 ∧ ((cd ≤ mc ∧ dd ≤ ms) ∧ (k_X2_isLive (fun r_12 S_12 => 
  ((r_12 = 0 →
    k_X7_matched_101 Q dp mc ms R11 R46 x0 x1 x2 x3 x4 x5 x6 cd dd S_12) ∧
   (¬ r_12 = 0 →
    cA S_12 x0 7 ∧ ((cd ≤ mc ∧ dd ≤ ms) ∧ (k_X7_valueAt (fun r_14 S_14 => 
    ((r_14 = (((-1))) →
      k_X7_matched_101 Q dp mc ms R11 R46 x0 x1 x2 x3 x4 x5 x6 cd dd S_14) ∧
     (¬ r_14 = (((-1))) →
      cA S_14 x5 2 ∧ ((∃ b15 : Nat, cr S_14 64 x5 = some b15 ∧ (cA S_14 b15 8 ∧ ((∃ b16 : Nat, cr S_14 257 b15 = some b16 ∧ (cA S_14 b16 12 ∧ ((cd ≤ mc ∧ dd ≤ ms) ∧ (k_Jx4a65c_get_915e3 (fun r_17 S_17 => 
      cA S_17 r_17 0 ∧ (cA S_17 x3 12 ∧ ((∃ mc18 ms19 : Nat, cd + mc18 ≤ mc ∧ dd + ms19 ≤ ms ∧ (k_Jx4a65c_add_9ea2d (fun r_20 S_20 => 
      k_X7_matched_101 Q dp mc ms R11 R46 x0 x1 x2 x3 x4 x5 x6 (cd + mc18) (dd + ms19) S_20) dp mc18 ms19 x3 r_17 S_17))))) dp b16 x6 S_14))))))))))) dp x0 x2 x6 S_12))))) dp x5 x6 S_11))))) dp b10 S)))))
def k_X7_matched_46L (Q : Nat → cS → Prop) (dp : Nat) (mc ms : Nat) (R11 : Nat → Nat → Nat → Nat → Int32 → Nat → Nat → cS → Prop) (x0 : Nat) (x1 : Nat) (x2 : Nat) (x3 : Nat) (x4 : Int32) (x5 : Nat) (x6 : Int32) (cd dd : Nat) (S : cS) : Prop :=
  lfp (X := Nat × Nat × Nat × Nat × Int32 × Nat × Int32 × Nat × Nat × cS) (fun P y => k_X7_matched_46 Q dp mc ms R11 (fun b0 b1 b2 b3 b4 b5 b6 b7 b8 S => P (b0, b1, b2, b3, b4, b5, b6, b7, b8, S)) y.1 y.2.1 y.2.2.1 y.2.2.2.1 y.2.2.2.2.1 y.2.2.2.2.2.1 y.2.2.2.2.2.2.1 y.2.2.2.2.2.2.2.1 y.2.2.2.2.2.2.2.2.1 y.2.2.2.2.2.2.2.2.2) (x0, x1, x2, x3, x4, x5, x6, cd, dd, S)
def k_X7_matched_11 (Q : Nat → cS → Prop) (dp : Nat) (mc ms : Nat) (R11 : Nat → Nat → Nat → Nat → Int32 → Nat → Nat → cS → Prop) (x0 : Nat) (x1 : Nat) (x2 : Nat) (x3 : Nat) (x4 : Int32) (cd dd : Nat) (S : cS) : Prop :=
cA S x1 10 ∧ ((cd ≤ mc ∧ dd ≤ ms) ∧ (k_X10_size (fun r_4 S_4 => 
((r_4 ≤ x4 →
  (cd ≤ mc ∧ dd ≤ ms) ∧ (Q x3 S_4)) ∧
 (¬ r_4 ≤ x4 →
  cA S_4 x1 10 ∧ ((cd ≤ mc ∧ dd ≤ ms) ∧ (k_X10_at (fun r_5 S_5 => 
  ((r_5 = none →
    k_X7_matched_107 Q dp mc ms R11 x0 x1 x2 x3 x4 cd dd S_5) ∧
   (∀ b6 : Nat, r_5 = some b6 →
    cA S_5 b6 2 ∧ ((∃ b8 : Nat, cr S_5 64 b6 = some b8 ∧ (cA S_5 x0 7 ∧ ((cd ≤ mc ∧ dd ≤ ms) ∧ (k_X7_readSegment (fun S_9 => 
    k_X7_matched_46L Q dp mc ms R11 x0 x1 x2 x3 x4 b6 (((nI 0))) cd dd S_9) dp x0 x2 b8 S_5)))))))) dp x1 x4 S_4))))) dp x1 S))
def k_X7_matched_11L (Q : Nat → cS → Prop) (dp : Nat) (mc ms : Nat)  (x0 : Nat) (x1 : Nat) (x2 : Nat) (x3 : Nat) (x4 : Int32) (cd dd : Nat) (S : cS) : Prop :=
  lfp (X := Nat × Nat × Nat × Nat × Int32 × Nat × Nat × cS) (fun P y => k_X7_matched_11 Q dp mc ms  (fun b0 b1 b2 b3 b4 b5 b6 S => P (b0, b1, b2, b3, b4, b5, b6, S)) y.1 y.2.1 y.2.2.1 y.2.2.2.1 y.2.2.2.2.1 y.2.2.2.2.2.1 y.2.2.2.2.2.2.1 y.2.2.2.2.2.2.2) (x0, x1, x2, x3, x4, cd, dd, S)
def k_X7_matched (Q : Nat → cS → Prop) (dp : Nat) (mc ms : Nat) (x0 : Nat) (x1 : Nat) (x2 : Nat) (S : cS) : Prop :=
(0 + 1 ≤ mc ∧ 0 + 3 ≤ ms) ∧ (∀ q1 : Nat, q1 ∉ cL S → ∀ S2 : cS, S2 = cNew S q1 12 → (0 + 1 ≤ mc ∧ 0 + 3 ≤ ms) ∧ (k_Jx4a65c_init_da8c8 (fun S_3 => 
k_X7_matched_11L Q dp mc ms  x0 x1 x2 q1 (((nI 0))) (0 + 1) (0 + 3) S_3) dp q1 S2))
section S_X7_matched
variable {p : Program} {l : Launch} {e : Env} {s : State} {m : MethodId} {args : Array Value} {below : List Frame} {meth : Method} {c : Code} {A : Nat → Prop} {D : va_G} {Y : cY} {tp dp : Nat}
set_option maxRecDepth 20000 in
theorem tb_X7_matched_107 {mc ms : Nat} (C : cC p s m args meth c cX7_matched 7 (some (.object "java/util/ArrayList")) A D Y tp dp RX7) {post : Nat → cS → Prop} {R11 : Nat → Nat → Nat → Nat → Int32 → Nat → Nat → cS → Prop} (hR11 : ∀ (x0 : Nat) (x1 : Nat) (x2 : Nat) (x3 : Nat) (x4 : Int32) (cd dd : Nat) (S : cS), R11 x0 x1 x2 x3 x4 cd dd S → cG p l e (cRm 8 mc ms 188) s m args below meth c A D Y 7 (MQ below (cQr post D Y A) args s mc ms A) cd dd 11 [(0, .ref x0), (1, .ref x1), (2, .ref x2), (3, .ref x3), (4, .int x4)] [] S) (x0 : Nat) (x1 : Nat) (x2 : Nat) (x3 : Nat) (x4 : Int32) (cd dd : Nat) (S : cS) (h : k_X7_matched_107 post dp mc ms R11 x0 x1 x2 x3 x4 cd dd S) : cG p l e (cRm 8 mc ms 188) s m args below meth c A D Y 7 (MQ below (cQr post D Y A) args s mc ms A) cd dd 107 [(0, .ref x0), (1, .ref x1), (2, .ref x2), (3, .ref x3), (4, .int x4)] [] S := by
  unfold k_X7_matched_107 at h
  obtain ⟨x4_7, e_x4_7⟩ : ∃ z : Int32, z = x4 + nI 1 := ⟨_, rfl⟩
  have h := h x4_7 e_x4_7
  refine cg_iinc C (lv' := [(4, .int x4_7), (0, .ref x0), (1, .ref x1), (2, .ref x2), (3, .ref x3)]) 4 rfl (by rw [e_x4_7]; rfl) (Nat.le_of_ble_eq_true rfl) rfl dX7_matched_107 ?_
  refine cg_goto C 11 (by decide) dX7_matched_110 ?_
  exact cg_sub [1, 2, 3, 4, 0] rfl (hR11 x0 x1 x2 x3 x4_7 cd dd S h)
set_option maxRecDepth 20000 in
theorem tb_X7_matched_101 {mc ms : Nat} (C : cC p s m args meth c cX7_matched 7 (some (.object "java/util/ArrayList")) A D Y tp dp RX7) {post : Nat → cS → Prop} {R11 : Nat → Nat → Nat → Nat → Int32 → Nat → Nat → cS → Prop} {R46 : Nat → Nat → Nat → Nat → Int32 → Nat → Int32 → Nat → Nat → cS → Prop} (hR11 : ∀ (x0 : Nat) (x1 : Nat) (x2 : Nat) (x3 : Nat) (x4 : Int32) (cd dd : Nat) (S : cS), R11 x0 x1 x2 x3 x4 cd dd S → cG p l e (cRm 8 mc ms 188) s m args below meth c A D Y 7 (MQ below (cQr post D Y A) args s mc ms A) cd dd 11 [(0, .ref x0), (1, .ref x1), (2, .ref x2), (3, .ref x3), (4, .int x4)] [] S) (hR46 : ∀ (x0 : Nat) (x1 : Nat) (x2 : Nat) (x3 : Nat) (x4 : Int32) (x5 : Nat) (x6 : Int32) (cd dd : Nat) (S : cS), R46 x0 x1 x2 x3 x4 x5 x6 cd dd S → cG p l e (cRm 8 mc ms 188) s m args below meth c A D Y 7 (MQ below (cQr post D Y A) args s mc ms A) cd dd 46 [(0, .ref x0), (1, .ref x1), (2, .ref x2), (3, .ref x3), (4, .int x4), (5, .ref x5), (6, .int x6)] [] S) (x0 : Nat) (x1 : Nat) (x2 : Nat) (x3 : Nat) (x4 : Int32) (x5 : Nat) (x6 : Int32) (cd dd : Nat) (S : cS) (h : k_X7_matched_101 post dp mc ms R11 R46 x0 x1 x2 x3 x4 x5 x6 cd dd S) : cG p l e (cRm 8 mc ms 188) s m args below meth c A D Y 7 (MQ below (cQr post D Y A) args s mc ms A) cd dd 101 [(0, .ref x0), (1, .ref x1), (2, .ref x2), (3, .ref x3), (4, .int x4), (5, .ref x5), (6, .int x6)] [] S := by
  unfold k_X7_matched_101 at h
  obtain ⟨x6_13, e_x6_13⟩ : ∃ z : Int32, z = x6 + nI 1 := ⟨_, rfl⟩
  have h := h x6_13 e_x6_13
  refine cg_iinc C (lv' := [(6, .int x6_13), (0, .ref x0), (1, .ref x1), (2, .ref x2), (3, .ref x3), (4, .int x4), (5, .ref x5)]) 6 rfl (by rw [e_x6_13]; rfl) (Nat.le_of_ble_eq_true rfl) rfl dX7_matched_101 ?_
  refine cg_goto C 46 (by decide) dX7_matched_104 ?_
  exact cg_sub [1, 2, 3, 4, 5, 6, 0] rfl (hR46 x0 x1 x2 x3 x4 x5 x6_13 cd dd S h)
set_option maxRecDepth 20000 in
theorem tb_X7_matched_46 {mc ms : Nat} (C : cC p s m args meth c cX7_matched 7 (some (.object "java/util/ArrayList")) A D Y tp dp RX7) {post : Nat → cS → Prop} {R11 : Nat → Nat → Nat → Nat → Int32 → Nat → Nat → cS → Prop} {R46 : Nat → Nat → Nat → Nat → Int32 → Nat → Int32 → Nat → Nat → cS → Prop} (hR11 : ∀ (x0 : Nat) (x1 : Nat) (x2 : Nat) (x3 : Nat) (x4 : Int32) (cd dd : Nat) (S : cS), R11 x0 x1 x2 x3 x4 cd dd S → cG p l e (cRm 8 mc ms 188) s m args below meth c A D Y 7 (MQ below (cQr post D Y A) args s mc ms A) cd dd 11 [(0, .ref x0), (1, .ref x1), (2, .ref x2), (3, .ref x3), (4, .int x4)] [] S) (hR46 : ∀ (x0 : Nat) (x1 : Nat) (x2 : Nat) (x3 : Nat) (x4 : Int32) (x5 : Nat) (x6 : Int32) (cd dd : Nat) (S : cS), R46 x0 x1 x2 x3 x4 x5 x6 cd dd S → cG p l e (cRm 8 mc ms 188) s m args below meth c A D Y 7 (MQ below (cQr post D Y A) args s mc ms A) cd dd 46 [(0, .ref x0), (1, .ref x1), (2, .ref x2), (3, .ref x3), (4, .int x4), (5, .ref x5), (6, .int x6)] [] S) (x0 : Nat) (x1 : Nat) (x2 : Nat) (x3 : Nat) (x4 : Int32) (x5 : Nat) (x6 : Int32) (cd dd : Nat) (S : cS) (h : k_X7_matched_46 post dp mc ms R11 R46 x0 x1 x2 x3 x4 x5 x6 cd dd S) : cG p l e (cRm 8 mc ms 188) s m args below meth c A D Y 7 (MQ below (cQr post D Y A) args s mc ms A) cd dd 46 [(0, .ref x0), (1, .ref x1), (2, .ref x2), (3, .ref x3), (4, .int x4), (5, .ref x5), (6, .int x6)] [] S := by
  unfold k_X7_matched_46 at h
  refine cg_iload C 6 rfl dX7_matched_46 ?_
  refine cg_aload C 5 rfl dX7_matched_48 ?_
  obtain ⟨hc_50, h⟩ := h
  obtain ⟨b10, hb_b10, h⟩ := h
  refine cg_get C (k := 2) (j := 0) (.ref b10) hc_50.1 hc_50.2 (by decide) rfl (by decide) rfl (show cV _ 2 0 x5 = _ from congrArg va_rf hb_b10) cWs_wsX20 cl_X7_82 rfl dX7_matched_50 ?_
  obtain ⟨hc_53, h⟩ := h
  obtain ⟨hb_53, h⟩ := h
  refine cg_calli C (t_X8_size l b10 S dp h) cc_X7_128 hc_53.1 hc_53.2 (by decide) rfl rfl ⟨by decide, by decide⟩ hb_53 rfl (Nat.le_of_ble_eq_true rfl) dX7_matched_53 (fun r_11 S_11 h => ?_)
  simp only [Nat.add_zero]
  refine cg_icmp_ge C 107 (by decide) dX7_matched_56 (fun c_ => ?_) (fun c_ => ?_)
  · have h := h.1 c_
    exact cg_sub [0, 1, 2, 3, 4] rfl (tb_X7_matched_107 C  hR11 x0 x1 x2 x3 x4 cd dd S_11 h)
  · have h := h.2 c_
    refine cg_aload C 5 rfl dX7_matched_59 ?_
    refine cg_iload C 6 rfl dX7_matched_61 ?_
    obtain ⟨hc_63, h⟩ := h
    obtain ⟨hb_63, h⟩ := h
    refine cg_calli C (t_X2_isLive l x5 x6 S_11 dp h) cc_X7_149 hc_63.1 hc_63.2 (by decide) rfl rfl ⟨by decide, by decide⟩ hb_63 rfl (Nat.le_of_ble_eq_true rfl) dX7_matched_63 (fun r_12 S_12 h => ?_)
    simp only [Nat.add_zero]
    refine cg_if_eq C 101 (by decide) dX7_matched_66 (fun c_ => ?_) (fun c_ => ?_)
    · have h := h.1 c_
      exact cg_sub [0, 1, 2, 3, 4, 5, 6] rfl (tb_X7_matched_101 C  hR11 hR46 x0 x1 x2 x3 x4 x5 x6 cd dd S_12 h)
    · have h := h.2 c_
      refine cg_aload_n C (i := 0) rfl 0 rfl dX7_matched_69 ?_
      refine cg_aload_n C (i := 2) rfl 2 rfl dX7_matched_70 ?_
      refine cg_iload C 6 rfl dX7_matched_71 ?_
      obtain ⟨hc_73, h⟩ := h
      obtain ⟨hb_73, h⟩ := h
      refine cg_calli C (t_X7_valueAt l x0 x2 x6 S_12 dp h) cc_X7_153 hc_73.1 hc_73.2 (by decide) rfl rfl ⟨by decide, by decide⟩ hb_73 rfl (Nat.le_of_ble_eq_true rfl) dX7_matched_73 (fun r_14 S_14 h => ?_)
      simp only [Nat.add_zero]
      refine cg_iconst C (x := (-1)) rfl dX7_matched_76 ?_
      refine cg_icmp_eq C 101 (by decide) dX7_matched_77 (fun c_ => ?_) (fun c_ => ?_)
      · have h := h.1 c_
        exact cg_sub [0, 1, 2, 3, 4, 5, 6] rfl (tb_X7_matched_101 C  hR11 hR46 x0 x1 x2 x3 x4 x5 x6 cd dd S_14 h)
      · have h := h.2 c_
        refine cg_aload_n C (i := 3) rfl 3 rfl dX7_matched_80 ?_
        refine cg_aload C 5 rfl dX7_matched_81 ?_
        obtain ⟨hc_83, h⟩ := h
        obtain ⟨b15, hb_b15, h⟩ := h
        refine cg_get C (k := 2) (j := 0) (.ref b15) hc_83.1 hc_83.2 (by decide) rfl (by decide) rfl (show cV _ 2 0 x5 = _ from congrArg va_rf hb_b15) cWs_wsX20 cl_X7_82 rfl dX7_matched_83 ?_
        obtain ⟨hc_86, h⟩ := h
        obtain ⟨b16, hb_b16, h⟩ := h
        refine cg_get C (k := 8) (j := 1) (.ref b16) hc_86.1 hc_86.2 (by decide) rfl (by decide) rfl (show cV _ 8 1 b15 = _ from congrArg va_rf hb_b16) cWs_wsX80 cl_X7_157 rfl dX7_matched_86 ?_
        refine cg_iload C 6 rfl dX7_matched_89 ?_
        obtain ⟨hc_91, h⟩ := h
        obtain ⟨hb_91, h⟩ := h
        refine cg_callr C (t_Jx4a65c_get_915e3 l b16 x6 S_14 dp h) cc_X7_52 hc_91.1 hc_91.2 (by decide) rfl rfl ⟨by decide, by decide⟩ hb_91 rfl (Nat.le_of_ble_eq_true rfl) dX7_matched_91 (fun r_17 S_17 h => ?_)
        simp only [Nat.add_zero]
        obtain ⟨hc_94, h⟩ := h
        refine cg_ccast C (k := 0) hc_94.1 hc_94.2 (by decide) rfl cnc_X7_160 dX7_matched_94 ?_
        obtain ⟨hc_97, h⟩ := h
        obtain ⟨mc18, ms19, hm_1, hm_2, h⟩ := h
        refine cg_calli C (t_Jx4a65c_add_9ea2d l mc18 ms19 x3 r_17 S_17 dp h) cc_X7_162 hc_97.1 hc_97.2 (by decide) rfl rfl ⟨by decide, by decide⟩ ⟨hm_1, hm_2⟩ rfl (Nat.le_of_ble_eq_true rfl) dX7_matched_97 (fun r_20 S_20 h => ?_)
        refine cg_pop C rfl dX7_matched_100 ?_
        exact cg_sub [0, 1, 2, 3, 4, 5, 6] rfl (tb_X7_matched_101 C  hR11 hR46 x0 x1 x2 x3 x4 x5 x6 (cd + mc18) (dd + ms19) S_20 h)
set_option maxRecDepth 20000 in
theorem tl_X7_matched_46 {mc ms : Nat} (C : cC p s m args meth c cX7_matched 7 (some (.object "java/util/ArrayList")) A D Y tp dp RX7) {post : Nat → cS → Prop} {R11 : Nat → Nat → Nat → Nat → Int32 → Nat → Nat → cS → Prop} (hR11 : ∀ (x0 : Nat) (x1 : Nat) (x2 : Nat) (x3 : Nat) (x4 : Int32) (cd dd : Nat) (S : cS), R11 x0 x1 x2 x3 x4 cd dd S → cG p l e (cRm 8 mc ms 188) s m args below meth c A D Y 7 (MQ below (cQr post D Y A) args s mc ms A) cd dd 11 [(0, .ref x0), (1, .ref x1), (2, .ref x2), (3, .ref x3), (4, .int x4)] [] S) (x0 : Nat) (x1 : Nat) (x2 : Nat) (x3 : Nat) (x4 : Int32) (x5 : Nat) (x6 : Int32) (cd dd : Nat) (S : cS) (h : k_X7_matched_46L post dp mc ms R11 x0 x1 x2 x3 x4 x5 x6 cd dd S) : cG p l e (cRm 8 mc ms 188) s m args below meth c A D Y 7 (MQ below (cQr post D Y A) args s mc ms A) cd dd 46 [(0, .ref x0), (1, .ref x1), (2, .ref x2), (3, .ref x3), (4, .int x4), (5, .ref x5), (6, .int x6)] [] S :=
  h (fun y => cG p l e (cRm 8 mc ms 188) s m args below meth c A D Y 7 (MQ below (cQr post D Y A) args s mc ms A) (y.2.2.2.2.2.2.2.1) (y.2.2.2.2.2.2.2.2.1) 46 [(0, .ref (y.1)), (1, .ref (y.2.1)), (2, .ref (y.2.2.1)), (3, .ref (y.2.2.2.1)), (4, .int (y.2.2.2.2.1)), (5, .ref (y.2.2.2.2.2.1)), (6, .int (y.2.2.2.2.2.2.1))] [] (y.2.2.2.2.2.2.2.2.2)) (fun y hy => tb_X7_matched_46 C  hR11 (fun b0 b1 b2 b3 b4 b5 b6 b7 b8 S z => z) (y.1) (y.2.1) (y.2.2.1) (y.2.2.2.1) (y.2.2.2.2.1) (y.2.2.2.2.2.1) (y.2.2.2.2.2.2.1) (y.2.2.2.2.2.2.2.1) (y.2.2.2.2.2.2.2.2.1) (y.2.2.2.2.2.2.2.2.2) hy)
set_option maxRecDepth 20000 in
theorem tb_X7_matched_11 {mc ms : Nat} (C : cC p s m args meth c cX7_matched 7 (some (.object "java/util/ArrayList")) A D Y tp dp RX7) {post : Nat → cS → Prop} {R11 : Nat → Nat → Nat → Nat → Int32 → Nat → Nat → cS → Prop} (hR11 : ∀ (x0 : Nat) (x1 : Nat) (x2 : Nat) (x3 : Nat) (x4 : Int32) (cd dd : Nat) (S : cS), R11 x0 x1 x2 x3 x4 cd dd S → cG p l e (cRm 8 mc ms 188) s m args below meth c A D Y 7 (MQ below (cQr post D Y A) args s mc ms A) cd dd 11 [(0, .ref x0), (1, .ref x1), (2, .ref x2), (3, .ref x3), (4, .int x4)] [] S) (x0 : Nat) (x1 : Nat) (x2 : Nat) (x3 : Nat) (x4 : Int32) (cd dd : Nat) (S : cS) (h : k_X7_matched_11 post dp mc ms R11 x0 x1 x2 x3 x4 cd dd S) : cG p l e (cRm 8 mc ms 188) s m args below meth c A D Y 7 (MQ below (cQr post D Y A) args s mc ms A) cd dd 11 [(0, .ref x0), (1, .ref x1), (2, .ref x2), (3, .ref x3), (4, .int x4)] [] S := by
  unfold k_X7_matched_11 at h
  refine cg_iload C 4 rfl dX7_matched_11 ?_
  refine cg_aload_n C (i := 1) rfl 1 rfl dX7_matched_13 ?_
  obtain ⟨hc_14, h⟩ := h
  obtain ⟨hb_14, h⟩ := h
  refine cg_calli C (t_X10_size l x1 S dp h) cc_X7_77 hc_14.1 hc_14.2 (by decide) rfl rfl ⟨by decide, by decide⟩ hb_14 rfl (Nat.le_of_ble_eq_true rfl) dX7_matched_14 (fun r_4 S_4 h => ?_)
  simp only [Nat.add_zero]
  refine cg_icmp_ge C 113 (by decide) dX7_matched_17 (fun c_ => ?_) (fun c_ => ?_)
  · have h := h.1 c_
    refine cg_aload_n C (i := 3) rfl 3 rfl dX7_matched_113 ?_
    obtain ⟨hb_114, h⟩ := h
    exact cg_aret C rfl (by first | exact Or.inl ⟨_, rfl⟩ | exact Or.inr ⟨_, rfl⟩) h dX7_matched_114 hb_114.1 hb_114.2
  · have h := h.2 c_
    refine cg_aload_n C (i := 1) rfl 1 rfl dX7_matched_20 ?_
    refine cg_iload C 4 rfl dX7_matched_21 ?_
    obtain ⟨hc_23, h⟩ := h
    obtain ⟨hb_23, h⟩ := h
    refine cg_callq C (t_X10_at l x1 x4 S_4 dp h) cc_X7_78 hc_23.1 hc_23.2 (by decide) rfl rfl ⟨by decide, by decide⟩ hb_23 rfl (Nat.le_of_ble_eq_true rfl) dX7_matched_23 (fun r_5 S_5 h => ?_)
    simp only [Nat.add_zero]
    obtain ho | ⟨b6, ho⟩ := c_opt r_5
    · replace h := h.1 ho
      subst ho
      refine cg_cast (.null) rfl ?_
      refine cg_astoreN (lv' := [(5, .null), (0, .ref x0), (1, .ref x1), (2, .ref x2), (3, .ref x3), (4, .int x4)]) C (Nat.le_of_ble_eq_true rfl) rfl dX7_matched_26 ?_
      refine cg_aloadN C 0 rfl dX7_matched_28 ?_
      refine cg_ifnullN C 107 (by decide) dX7_matched_30 ?_
      exact cg_sub [1, 2, 3, 4, 5] rfl (tb_X7_matched_107 C  hR11 x0 x1 x2 x3 x4 cd dd S_5 h)
    · replace h := h.2 b6 ho
      subst ho
      refine cg_cast (.ref b6) rfl ?_
      refine cg_astore (lv' := [(5, .ref b6), (0, .ref x0), (1, .ref x1), (2, .ref x2), (3, .ref x3), (4, .int x4)]) C (Nat.le_of_ble_eq_true rfl) rfl dX7_matched_26 ?_
      refine cg_aload C 0 rfl dX7_matched_28 ?_
      refine cg_ifnull C dX7_matched_30 ?_
      refine cg_aload_n C (i := 0) rfl 1 rfl dX7_matched_33 ?_
      refine cg_aload_n C (i := 2) rfl 3 rfl dX7_matched_34 ?_
      refine cg_aload C 0 rfl dX7_matched_35 ?_
      obtain ⟨hc_37, h⟩ := h
      obtain ⟨b8, hb_b8, h⟩ := h
      refine cg_get C (k := 2) (j := 0) (.ref b8) hc_37.1 hc_37.2 (by decide) rfl (by decide) rfl (show cV _ 2 0 b6 = _ from congrArg va_rf hb_b8) cWs_wsX20 cl_X7_82 rfl dX7_matched_37 ?_
      obtain ⟨hc_40, h⟩ := h
      obtain ⟨hb_40, h⟩ := h
      refine cg_callv C (t_X7_readSegment l x0 x2 b8 S_5 dp h) cc_X7_145 hc_40.1 hc_40.2 (by decide) rfl rfl ⟨by decide, by decide⟩ hb_40 rfl (Nat.le_of_ble_eq_true rfl) dX7_matched_40 (fun S_9 h => ?_)
      simp only [Nat.add_zero]
      refine cg_iconst C (x := nI 0) rfl dX7_matched_43 ?_
      refine cg_istore C (lv' := [(6, .int ((nI 0))), (5, .ref b6), (0, .ref x0), (1, .ref x1), (2, .ref x2), (3, .ref x3), (4, .int x4)]) (Nat.le_of_ble_eq_true rfl) rfl dX7_matched_44 ?_
      exact cg_sub [2, 3, 4, 5, 6, 1, 0] rfl (tl_X7_matched_46 C  hR11 x0 x1 x2 x3 x4 b6 (((nI 0))) cd dd S_9 h)
set_option maxRecDepth 20000 in
theorem tl_X7_matched_11 {mc ms : Nat} (C : cC p s m args meth c cX7_matched 7 (some (.object "java/util/ArrayList")) A D Y tp dp RX7) {post : Nat → cS → Prop}   (x0 : Nat) (x1 : Nat) (x2 : Nat) (x3 : Nat) (x4 : Int32) (cd dd : Nat) (S : cS) (h : k_X7_matched_11L post dp mc ms  x0 x1 x2 x3 x4 cd dd S) : cG p l e (cRm 8 mc ms 188) s m args below meth c A D Y 7 (MQ below (cQr post D Y A) args s mc ms A) cd dd 11 [(0, .ref x0), (1, .ref x1), (2, .ref x2), (3, .ref x3), (4, .int x4)] [] S :=
  h (fun y => cG p l e (cRm 8 mc ms 188) s m args below meth c A D Y 7 (MQ below (cQr post D Y A) args s mc ms A) (y.2.2.2.2.2.1) (y.2.2.2.2.2.2.1) 11 [(0, .ref (y.1)), (1, .ref (y.2.1)), (2, .ref (y.2.2.1)), (3, .ref (y.2.2.2.1)), (4, .int (y.2.2.2.2.1))] [] (y.2.2.2.2.2.2.2)) (fun y hy => tb_X7_matched_11 C   (fun b0 b1 b2 b3 b4 b5 b6 S z => z) (y.1) (y.2.1) (y.2.2.1) (y.2.2.2.1) (y.2.2.2.2.1) (y.2.2.2.2.2.1) (y.2.2.2.2.2.2.1) (y.2.2.2.2.2.2.2) hy)
end S_X7_matched
set_option maxHeartbeats 1000000 in
set_option maxRecDepth 20000 in
theorem t_X7_matched (l : Launch) (mc ms : Nat) (x0 : Nat) (x1 : Nat) (x2 : Nat) (S : cS) (dp : Nat) {P : Nat → cS → Prop} (h : k_X7_matched P dp mc ms x0 x1 x2 S) : cMet (cQr P) l yX7_matched cX7_matched 7 (some (.object "java/util/ArrayList")) 8 mc ms 188 [.ref x0, .ref x1, .ref x2] S dp := by
  intro D Y tp sz
  refine cg_body (by decide +kernel) (Nat.le_of_ble_eq_true rfl) ?_
  intro p e s m args below meth c C
  generalize va_A (cWd Y S) sz = A at C ⊢
  have C : cC p s m args meth c cX7_matched 7 (some (.object "java/util/ArrayList")) A D Y tp dp RX7 := C
  refine cg_lv (lv' := [(0, .ref x0), (1, .ref x1), (2, .ref x2)]) rfl ?_
  unfold k_X7_matched at h
  obtain ⟨hc_0, h⟩ := h
  refine cg_new C (k := 12) (N := 3) (fs := [.int 0, .null, .int 0]) (by decide) rfl cWs_wsJx4a65c0 tyJx4a65c_ok cn_X7_48 ci_Jx4a65c ct_Jx4a65c (fun j_ hj_ => by rcases (show j_ = 0 ∨ j_ = 1 ∨ j_ = 2 by omega) with rfl | rfl | rfl <;> rfl) rfl hc_0.1 hc_0.2 dX7_matched_0 (fun q1 hf_q1 => ?_)
  have h := h q1 hf_q1
  refine cg_nm (fun S2 e_S2 => ?_)
  have h := h S2 e_S2
  refine cg_dup C rfl dX7_matched_3 ?_
  obtain ⟨hb_4, h⟩ := h
  refine cg_callI C (t_Jx4a65c_init_da8c8 l q1 S2 dp h) cz_X7_144 rfl ⟨by decide, by decide⟩ hb_4 rfl (Nat.le_of_ble_eq_true rfl) dX7_matched_4 (fun S_3 h => ?_)
  simp only [Nat.add_zero]
  refine cg_astore_n (lv' := [(3, .ref q1), (0, .ref x0), (1, .ref x1), (2, .ref x2)]) C (i := 3) rfl (Nat.le_of_ble_eq_true rfl) rfl dX7_matched_7 ?_
  refine cg_iconst C (x := nI 0) rfl dX7_matched_8 ?_
  refine cg_istore C (lv' := [(4, .int ((nI 0))), (3, .ref q1), (0, .ref x0), (1, .ref x1), (2, .ref x2)]) (Nat.le_of_ble_eq_true rfl) rfl dX7_matched_9 ?_
  exact cg_sub [2, 3, 4, 1, 0] rfl (tl_X7_matched_11 C   x0 x1 x2 q1 (((nI 0))) (0 + 1) (0 + 3) S_3 h)
def k_X7_scanCount_90 (Q : Int32 → cS → Prop) (dp : Nat) (R6 : Nat → Int32 → Int64 → Int32 → Int32 → cS → Prop) (x0 : Nat) (x1 : Int32) (x2 : Int64) (x4 : Int32) (x5 : Int32) (S : cS) : Prop :=
∀ x5_5 : Int32, x5_5 = x5 + nI 1 → R6 x0 x1 x2 x4 x5_5 S
def k_X7_scanCount_84 (Q : Int32 → cS → Prop) (dp : Nat) (R6 : Nat → Int32 → Int64 → Int32 → Int32 → cS → Prop) (R26 : Nat → Int32 → Int64 → Int32 → Int32 → Option Nat → Int32 → cS → Prop) (x0 : Nat) (x1 : Int32) (x2 : Int64) (x4 : Int32) (x5 : Int32) (x6 : Nat) (x7 : Int32) (S : cS) : Prop :=
∀ x7_9 : Int32, x7_9 = x7 + nI 1 → R26 x0 x1 x2 x4 x5 (some x6) x7_9 S
def k_X7_scanCount_26 (Q : Int32 → cS → Prop) (dp : Nat) (R6 : Nat → Int32 → Int64 → Int32 → Int32 → cS → Prop) (R26 : Nat → Int32 → Int64 → Int32 → Int32 → Option Nat → Int32 → cS → Prop) (x0 : Nat) (x1 : Int32) (x2 : Int64) (x4 : Int32) (x5 : Int32) (x6 : Option Nat) (x7 : Int32) (S : cS) : Prop :=
((x6 = none →
  k_X7_scanCount_90 Q dp R6 x0 x1 x2 x4 x5 S) ∧
 (∀ b4 : Nat, x6 = some b4 →
  cA S b4 2 ∧ ((∃ b6 : Nat, cr S 64 b4 = some b6 ∧ (cA S b6 8 ∧ (k_X8_size (fun r_7 S_7 => 
  ((r_7 ≤ x7 →
    k_X7_scanCount_90 Q dp R6 x0 x1 x2 x4 x5 S_7) ∧
   (¬ r_7 ≤ x7 →
    cA S_7 b4 2 ∧ (k_X2_isLive (fun r_8 S_8 => 
    ((r_8 = 0 →
      k_X7_scanCount_84 Q dp R6 R26 x0 x1 x2 x4 x5 b4 x7 S_8) ∧
     (¬ r_8 = 0 →
      cA S_8 b4 2 ∧ ((∃ b10 : Nat, cr S_8 64 b4 = some b10 ∧ (cA S_8 b10 8 ∧ ((∃ b11 : Nat, cr S_8 257 b10 = some b11 ∧ (cA S_8 b11 12 ∧ (k_Jx4a65c_get_915e3 (fun r_12 S_12 => 
      cA S_12 r_12 0 ∧ (cA S_12 r_12 0 ∧ (k_X0_textOf (fun r_13 S_13 => 
      cA S_13 r_13 9 ∧ (k_X9_placesOf (fun r_14 S_14 => 
      ((r_14 = 0 →
        k_X7_scanCount_84 Q dp R6 R26 x0 x1 x2 x4 x5 b4 x7 S_14) ∧
       (¬ r_14 = 0 →
        ∀ x4_15 : Int32, x4_15 = x4 + nI 1 → k_X7_scanCount_84 Q dp R6 R26 x0 x1 x2 x4_15 x5 b4 x7 S_14))) dp r_13 x2 S_13)) dp r_12 x1 S_12))) dp b11 x7 S_8)))))))))) dp b4 x7 S_7)))) dp b6 S))))))
def k_X7_scanCount_26L (Q : Int32 → cS → Prop) (dp : Nat) (R6 : Nat → Int32 → Int64 → Int32 → Int32 → cS → Prop) (x0 : Nat) (x1 : Int32) (x2 : Int64) (x4 : Int32) (x5 : Int32) (x6 : Option Nat) (x7 : Int32) (S : cS) : Prop :=
  lfp (X := Nat × Int32 × Int64 × Int32 × Int32 × Option Nat × Int32 × cS) (fun P y => k_X7_scanCount_26 Q dp R6 (fun b0 b1 b2 b3 b4 b5 b6 S => P (b0, b1, b2, b3, b4, b5, b6, S)) y.1 y.2.1 y.2.2.1 y.2.2.2.1 y.2.2.2.2.1 y.2.2.2.2.2.1 y.2.2.2.2.2.2.1 y.2.2.2.2.2.2.2) (x0, x1, x2, x4, x5, x6, x7, S)
def k_X7_scanCount_6 (Q : Int32 → cS → Prop) (dp : Nat) (R6 : Nat → Int32 → Int64 → Int32 → Int32 → cS → Prop) (x0 : Nat) (x1 : Int32) (x2 : Int64) (x4 : Int32) (x5 : Int32) (S : cS) : Prop :=
cA S x0 10 ∧ (k_X10_size (fun r_1 S_1 => 
((r_1 ≤ x5 →
  Q x4 S_1) ∧
 (¬ r_1 ≤ x5 →
  cA S_1 x0 10 ∧ (k_X10_at (fun r_2 S_2 => 
  ((r_2 = none →
    k_X7_scanCount_26L Q dp R6 x0 x1 x2 x4 x5 none (((nI 0))) S_2) ∧
   (∀ b3 : Nat, r_2 = some b3 →
    k_X7_scanCount_26L Q dp R6 x0 x1 x2 x4 x5 (some b3) (((nI 0))) S_2))) dp x0 x5 S_1)))) dp x0 S)
def k_X7_scanCount_6L (Q : Int32 → cS → Prop) (dp : Nat)  (x0 : Nat) (x1 : Int32) (x2 : Int64) (x4 : Int32) (x5 : Int32) (S : cS) : Prop :=
  lfp (X := Nat × Int32 × Int64 × Int32 × Int32 × cS) (fun P y => k_X7_scanCount_6 Q dp  (fun b0 b1 b2 b3 b4 S => P (b0, b1, b2, b3, b4, S)) y.1 y.2.1 y.2.2.1 y.2.2.2.1 y.2.2.2.2.1 y.2.2.2.2.2) (x0, x1, x2, x4, x5, S)
def k_X7_scanCount (Q : Int32 → cS → Prop) (dp : Nat) (x0 : Nat) (x1 : Int32) (x2 : Int64) (S : cS) : Prop :=
k_X7_scanCount_6L Q dp  x0 x1 x2 (((nI 0))) (((nI 0))) S
section S_X7_scanCount
variable {p : Program} {l : Launch} {e : Env} {s : State} {m : MethodId} {args : Array Value} {below : List Frame} {meth : Method} {c : Code} {A : Nat → Prop} {D : va_G} {Y : cY} {tp dp : Nat}
set_option maxRecDepth 20000 in
theorem tb_X7_scanCount_90 (C : cC p s m args meth c cX7_scanCount 8 (some .int) A D Y tp dp RX7) {post : Int32 → cS → Prop} {R6 : Nat → Int32 → Int64 → Int32 → Int32 → cS → Prop} (hR6 : ∀ (x0 : Nat) (x1 : Int32) (x2 : Int64) (x4 : Int32) (x5 : Int32) (S : cS), R6 x0 x1 x2 x4 x5 S → cG p l e (cRm 4 0 0 85) s m args below meth c A D Y 8 (MQ below (cQi post D Y A) args s 0 0 A) 0 0 6 [(0, .ref x0), (1, .int x1), (2, .long x2), (4, .int x4), (5, .int x5)] [] S) (x0 : Nat) (x1 : Int32) (x2 : Int64) (x4 : Int32) (x5 : Int32) (S : cS) (h : k_X7_scanCount_90 post dp R6 x0 x1 x2 x4 x5 S) : cG p l e (cRm 4 0 0 85) s m args below meth c A D Y 8 (MQ below (cQi post D Y A) args s 0 0 A) 0 0 90 [(0, .ref x0), (1, .int x1), (2, .long x2), (4, .int x4), (5, .int x5)] [] S := by
  unfold k_X7_scanCount_90 at h
  obtain ⟨x5_5, e_x5_5⟩ : ∃ z : Int32, z = x5 + nI 1 := ⟨_, rfl⟩
  have h := h x5_5 e_x5_5
  refine cg_iinc C (lv' := [(5, .int x5_5), (0, .ref x0), (1, .int x1), (2, .long x2), (4, .int x4)]) 4 rfl (by rw [e_x5_5]; rfl) (Nat.le_of_ble_eq_true rfl) rfl dX7_scanCount_90 ?_
  refine cg_goto C 6 (by decide) dX7_scanCount_93 ?_
  exact cg_sub [1, 2, 3, 4, 0] rfl (hR6 x0 x1 x2 x4 x5_5 S h)
set_option maxRecDepth 20000 in
theorem tb_X7_scanCount_84 (C : cC p s m args meth c cX7_scanCount 8 (some .int) A D Y tp dp RX7) {post : Int32 → cS → Prop} {R6 : Nat → Int32 → Int64 → Int32 → Int32 → cS → Prop} {R26 : Nat → Int32 → Int64 → Int32 → Int32 → Option Nat → Int32 → cS → Prop} (hR6 : ∀ (x0 : Nat) (x1 : Int32) (x2 : Int64) (x4 : Int32) (x5 : Int32) (S : cS), R6 x0 x1 x2 x4 x5 S → cG p l e (cRm 4 0 0 85) s m args below meth c A D Y 8 (MQ below (cQi post D Y A) args s 0 0 A) 0 0 6 [(0, .ref x0), (1, .int x1), (2, .long x2), (4, .int x4), (5, .int x5)] [] S) (hR26 : ∀ (x0 : Nat) (x1 : Int32) (x2 : Int64) (x4 : Int32) (x5 : Int32) (x6 : Option Nat) (x7 : Int32) (S : cS), R26 x0 x1 x2 x4 x5 x6 x7 S → cG p l e (cRm 4 0 0 85) s m args below meth c A D Y 8 (MQ below (cQi post D Y A) args s 0 0 A) 0 0 26 [(0, .ref x0), (1, .int x1), (2, .long x2), (4, .int x4), (5, .int x5), (6, va_rf x6), (7, .int x7)] [] S) (x0 : Nat) (x1 : Int32) (x2 : Int64) (x4 : Int32) (x5 : Int32) (x6 : Nat) (x7 : Int32) (S : cS) (h : k_X7_scanCount_84 post dp R6 R26 x0 x1 x2 x4 x5 x6 x7 S) : cG p l e (cRm 4 0 0 85) s m args below meth c A D Y 8 (MQ below (cQi post D Y A) args s 0 0 A) 0 0 84 [(0, .ref x0), (1, .int x1), (2, .long x2), (4, .int x4), (5, .int x5), (6, .ref x6), (7, .int x7)] [] S := by
  unfold k_X7_scanCount_84 at h
  obtain ⟨x7_9, e_x7_9⟩ : ∃ z : Int32, z = x7 + nI 1 := ⟨_, rfl⟩
  have h := h x7_9 e_x7_9
  refine cg_iinc C (lv' := [(7, .int x7_9), (0, .ref x0), (1, .int x1), (2, .long x2), (4, .int x4), (5, .int x5), (6, .ref x6)]) 6 rfl (by rw [e_x7_9]; rfl) (Nat.le_of_ble_eq_true rfl) rfl dX7_scanCount_84 ?_
  refine cg_goto C 26 (by decide) dX7_scanCount_87 ?_
  exact cg_sub [1, 2, 3, 4, 5, 6, 0] rfl (hR26 x0 x1 x2 x4 x5 (some x6) x7_9 S h)
set_option maxRecDepth 20000 in
theorem tb_X7_scanCount_26 (C : cC p s m args meth c cX7_scanCount 8 (some .int) A D Y tp dp RX7) {post : Int32 → cS → Prop} {R6 : Nat → Int32 → Int64 → Int32 → Int32 → cS → Prop} {R26 : Nat → Int32 → Int64 → Int32 → Int32 → Option Nat → Int32 → cS → Prop} (hR6 : ∀ (x0 : Nat) (x1 : Int32) (x2 : Int64) (x4 : Int32) (x5 : Int32) (S : cS), R6 x0 x1 x2 x4 x5 S → cG p l e (cRm 4 0 0 85) s m args below meth c A D Y 8 (MQ below (cQi post D Y A) args s 0 0 A) 0 0 6 [(0, .ref x0), (1, .int x1), (2, .long x2), (4, .int x4), (5, .int x5)] [] S) (hR26 : ∀ (x0 : Nat) (x1 : Int32) (x2 : Int64) (x4 : Int32) (x5 : Int32) (x6 : Option Nat) (x7 : Int32) (S : cS), R26 x0 x1 x2 x4 x5 x6 x7 S → cG p l e (cRm 4 0 0 85) s m args below meth c A D Y 8 (MQ below (cQi post D Y A) args s 0 0 A) 0 0 26 [(0, .ref x0), (1, .int x1), (2, .long x2), (4, .int x4), (5, .int x5), (6, va_rf x6), (7, .int x7)] [] S) (x0 : Nat) (x1 : Int32) (x2 : Int64) (x4 : Int32) (x5 : Int32) (x6 : Option Nat) (x7 : Int32) (S : cS) (h : k_X7_scanCount_26 post dp R6 R26 x0 x1 x2 x4 x5 x6 x7 S) : cG p l e (cRm 4 0 0 85) s m args below meth c A D Y 8 (MQ below (cQi post D Y A) args s 0 0 A) 0 0 26 [(0, .ref x0), (1, .int x1), (2, .long x2), (4, .int x4), (5, .int x5), (6, va_rf x6), (7, .int x7)] [] S := by
  unfold k_X7_scanCount_26 at h
  obtain ho | ⟨b4, ho⟩ := c_opt x6
  · replace h := h.1 ho
    subst ho
    refine cg_lv (lv' := [(0, .ref x0), (1, .int x1), (2, .long x2), (4, .int x4), (5, .int x5), (6, .null), (7, .int x7)]) rfl ?_
    refine cg_st (st' := []) rfl ?_
    refine cg_aloadN C 5 rfl dX7_scanCount_26 ?_
    refine cg_ifnullN C 90 (by decide) dX7_scanCount_28 ?_
    exact cg_sub [0, 1, 2, 3, 4] rfl (tb_X7_scanCount_90 C  hR6 x0 x1 x2 x4 x5 S h)
  · replace h := h.2 b4 ho
    subst ho
    refine cg_lv (lv' := [(0, .ref x0), (1, .int x1), (2, .long x2), (4, .int x4), (5, .int x5), (6, .ref b4), (7, .int x7)]) rfl ?_
    refine cg_st (st' := []) rfl ?_
    refine cg_aload C 5 rfl dX7_scanCount_26 ?_
    refine cg_ifnull C dX7_scanCount_28 ?_
    refine cg_iload C 6 rfl dX7_scanCount_31 ?_
    refine cg_aload C 5 rfl dX7_scanCount_33 ?_
    obtain ⟨hc_35, h⟩ := h
    obtain ⟨b6, hb_b6, h⟩ := h
    refine cg_get C (k := 2) (j := 0) (.ref b6) hc_35.1 hc_35.2 (by decide) rfl (by decide) rfl (show cV _ 2 0 b4 = _ from congrArg va_rf hb_b6) cWs_wsX20 cl_X7_82 rfl dX7_scanCount_35 ?_
    obtain ⟨hc_38, h⟩ := h
    refine cg_calli C (t_X8_size l b6 S dp h) cc_X7_128 hc_38.1 hc_38.2 (by decide) rfl rfl ⟨by decide, by decide⟩ ⟨by decide, by decide⟩ rfl (Nat.le_of_ble_eq_true rfl) dX7_scanCount_38 (fun r_7 S_7 h => ?_)
    refine cg_icmp_ge C 90 (by decide) dX7_scanCount_41 (fun c_ => ?_) (fun c_ => ?_)
    · have h := h.1 c_
      exact cg_sub [0, 1, 2, 3, 4] rfl (tb_X7_scanCount_90 C  hR6 x0 x1 x2 x4 x5 S_7 h)
    · have h := h.2 c_
      refine cg_aload C 5 rfl dX7_scanCount_44 ?_
      refine cg_iload C 6 rfl dX7_scanCount_46 ?_
      obtain ⟨hc_48, h⟩ := h
      refine cg_calli C (t_X2_isLive l b4 x7 S_7 dp h) cc_X7_149 hc_48.1 hc_48.2 (by decide) rfl rfl ⟨by decide, by decide⟩ ⟨by decide, by decide⟩ rfl (Nat.le_of_ble_eq_true rfl) dX7_scanCount_48 (fun r_8 S_8 h => ?_)
      refine cg_if_eq C 84 (by decide) dX7_scanCount_51 (fun c_ => ?_) (fun c_ => ?_)
      · have h := h.1 c_
        exact cg_sub [0, 1, 2, 3, 4, 5, 6] rfl (tb_X7_scanCount_84 C  hR6 hR26 x0 x1 x2 x4 x5 b4 x7 S_8 h)
      · have h := h.2 c_
        refine cg_aload C 5 rfl dX7_scanCount_54 ?_
        obtain ⟨hc_56, h⟩ := h
        obtain ⟨b10, hb_b10, h⟩ := h
        refine cg_get C (k := 2) (j := 0) (.ref b10) hc_56.1 hc_56.2 (by decide) rfl (by decide) rfl (show cV _ 2 0 b4 = _ from congrArg va_rf hb_b10) cWs_wsX20 cl_X7_82 rfl dX7_scanCount_56 ?_
        obtain ⟨hc_59, h⟩ := h
        obtain ⟨b11, hb_b11, h⟩ := h
        refine cg_get C (k := 8) (j := 1) (.ref b11) hc_59.1 hc_59.2 (by decide) rfl (by decide) rfl (show cV _ 8 1 b10 = _ from congrArg va_rf hb_b11) cWs_wsX80 cl_X7_157 rfl dX7_scanCount_59 ?_
        refine cg_iload C 6 rfl dX7_scanCount_62 ?_
        obtain ⟨hc_64, h⟩ := h
        refine cg_callr C (t_Jx4a65c_get_915e3 l b11 x7 S_8 dp h) cc_X7_52 hc_64.1 hc_64.2 (by decide) rfl rfl ⟨by decide, by decide⟩ ⟨by decide, by decide⟩ rfl (Nat.le_of_ble_eq_true rfl) dX7_scanCount_64 (fun r_12 S_12 h => ?_)
        obtain ⟨hc_67, h⟩ := h
        refine cg_ccast C (k := 0) hc_67.1 hc_67.2 (by decide) rfl cnc_X7_160 dX7_scanCount_67 ?_
        refine cg_iload_n C (i := 1) rfl 1 rfl dX7_scanCount_70 ?_
        obtain ⟨hc_71, h⟩ := h
        refine cg_callr C (t_X0_textOf l r_12 x1 S_12 dp h) cc_X7_169 hc_71.1 hc_71.2 (by decide) rfl rfl ⟨by decide, by decide⟩ ⟨by decide, by decide⟩ rfl (Nat.le_of_ble_eq_true rfl) dX7_scanCount_71 (fun r_13 S_13 h => ?_)
        refine cg_lload_n C (i := 2) rfl 2 rfl dX7_scanCount_74 ?_
        obtain ⟨hc_75, h⟩ := h
        refine cg_calli C (t_X9_placesOf l r_13 x2 S_13 dp h) cc_X7_173 hc_75.1 hc_75.2 (by decide) rfl rfl ⟨by decide, by decide⟩ ⟨by decide, by decide⟩ rfl (Nat.le_of_ble_eq_true rfl) dX7_scanCount_75 (fun r_14 S_14 h => ?_)
        refine cg_if_eq C 84 (by decide) dX7_scanCount_78 (fun c_ => ?_) (fun c_ => ?_)
        · have h := h.1 c_
          exact cg_sub [0, 1, 2, 3, 4, 5, 6] rfl (tb_X7_scanCount_84 C  hR6 hR26 x0 x1 x2 x4 x5 b4 x7 S_14 h)
        · have h := h.2 c_
          obtain ⟨x4_15, e_x4_15⟩ : ∃ z : Int32, z = x4 + nI 1 := ⟨_, rfl⟩
          have h := h x4_15 e_x4_15
          refine cg_iinc C (lv' := [(4, .int x4_15), (0, .ref x0), (1, .int x1), (2, .long x2), (5, .int x5), (6, .ref b4), (7, .int x7)]) 3 rfl (by rw [e_x4_15]; rfl) (Nat.le_of_ble_eq_true rfl) rfl dX7_scanCount_81 ?_
          exact cg_sub [1, 2, 3, 0, 4, 5, 6] rfl (tb_X7_scanCount_84 C  hR6 hR26 x0 x1 x2 x4_15 x5 b4 x7 S_14 h)
set_option maxRecDepth 20000 in
theorem tl_X7_scanCount_26 (C : cC p s m args meth c cX7_scanCount 8 (some .int) A D Y tp dp RX7) {post : Int32 → cS → Prop} {R6 : Nat → Int32 → Int64 → Int32 → Int32 → cS → Prop} (hR6 : ∀ (x0 : Nat) (x1 : Int32) (x2 : Int64) (x4 : Int32) (x5 : Int32) (S : cS), R6 x0 x1 x2 x4 x5 S → cG p l e (cRm 4 0 0 85) s m args below meth c A D Y 8 (MQ below (cQi post D Y A) args s 0 0 A) 0 0 6 [(0, .ref x0), (1, .int x1), (2, .long x2), (4, .int x4), (5, .int x5)] [] S) (x0 : Nat) (x1 : Int32) (x2 : Int64) (x4 : Int32) (x5 : Int32) (x6 : Option Nat) (x7 : Int32) (S : cS) (h : k_X7_scanCount_26L post dp R6 x0 x1 x2 x4 x5 x6 x7 S) : cG p l e (cRm 4 0 0 85) s m args below meth c A D Y 8 (MQ below (cQi post D Y A) args s 0 0 A) 0 0 26 [(0, .ref x0), (1, .int x1), (2, .long x2), (4, .int x4), (5, .int x5), (6, va_rf x6), (7, .int x7)] [] S :=
  h (fun y => cG p l e (cRm 4 0 0 85) s m args below meth c A D Y 8 (MQ below (cQi post D Y A) args s 0 0 A) 0 0 26 [(0, .ref (y.1)), (1, .int (y.2.1)), (2, .long (y.2.2.1)), (4, .int (y.2.2.2.1)), (5, .int (y.2.2.2.2.1)), (6, va_rf (y.2.2.2.2.2.1)), (7, .int (y.2.2.2.2.2.2.1))] [] (y.2.2.2.2.2.2.2)) (fun y hy => tb_X7_scanCount_26 C  hR6 (fun b0 b1 b2 b3 b4 b5 b6 S z => z) (y.1) (y.2.1) (y.2.2.1) (y.2.2.2.1) (y.2.2.2.2.1) (y.2.2.2.2.2.1) (y.2.2.2.2.2.2.1) (y.2.2.2.2.2.2.2) hy)
set_option maxRecDepth 20000 in
theorem tb_X7_scanCount_6 (C : cC p s m args meth c cX7_scanCount 8 (some .int) A D Y tp dp RX7) {post : Int32 → cS → Prop} {R6 : Nat → Int32 → Int64 → Int32 → Int32 → cS → Prop} (hR6 : ∀ (x0 : Nat) (x1 : Int32) (x2 : Int64) (x4 : Int32) (x5 : Int32) (S : cS), R6 x0 x1 x2 x4 x5 S → cG p l e (cRm 4 0 0 85) s m args below meth c A D Y 8 (MQ below (cQi post D Y A) args s 0 0 A) 0 0 6 [(0, .ref x0), (1, .int x1), (2, .long x2), (4, .int x4), (5, .int x5)] [] S) (x0 : Nat) (x1 : Int32) (x2 : Int64) (x4 : Int32) (x5 : Int32) (S : cS) (h : k_X7_scanCount_6 post dp R6 x0 x1 x2 x4 x5 S) : cG p l e (cRm 4 0 0 85) s m args below meth c A D Y 8 (MQ below (cQi post D Y A) args s 0 0 A) 0 0 6 [(0, .ref x0), (1, .int x1), (2, .long x2), (4, .int x4), (5, .int x5)] [] S := by
  unfold k_X7_scanCount_6 at h
  refine cg_iload C 4 rfl dX7_scanCount_6 ?_
  refine cg_aload_n C (i := 0) rfl 0 rfl dX7_scanCount_8 ?_
  obtain ⟨hc_9, h⟩ := h
  refine cg_calli C (t_X10_size l x0 S dp h) cc_X7_77 hc_9.1 hc_9.2 (by decide) rfl rfl ⟨by decide, by decide⟩ ⟨by decide, by decide⟩ rfl (Nat.le_of_ble_eq_true rfl) dX7_scanCount_9 (fun r_1 S_1 h => ?_)
  refine cg_icmp_ge C 96 (by decide) dX7_scanCount_12 (fun c_ => ?_) (fun c_ => ?_)
  · have h := h.1 c_
    refine cg_iload C 3 rfl dX7_scanCount_96 ?_
    exact cg_iret C h dX7_scanCount_98 (by decide) (by decide)
  · have h := h.2 c_
    refine cg_aload_n C (i := 0) rfl 0 rfl dX7_scanCount_15 ?_
    refine cg_iload C 4 rfl dX7_scanCount_16 ?_
    obtain ⟨hc_18, h⟩ := h
    refine cg_callq C (t_X10_at l x0 x5 S_1 dp h) cc_X7_78 hc_18.1 hc_18.2 (by decide) rfl rfl ⟨by decide, by decide⟩ ⟨by decide, by decide⟩ rfl (Nat.le_of_ble_eq_true rfl) dX7_scanCount_18 (fun r_2 S_2 h => ?_)
    obtain ho | ⟨b3, ho⟩ := c_opt r_2
    · replace h := h.1 ho
      subst ho
      refine cg_cast (.null) rfl ?_
      refine cg_astoreN (lv' := [(6, .null), (0, .ref x0), (1, .int x1), (2, .long x2), (4, .int x4), (5, .int x5)]) C (Nat.le_of_ble_eq_true rfl) rfl dX7_scanCount_21 ?_
      refine cg_iconst C (x := nI 0) rfl dX7_scanCount_23 ?_
      refine cg_istore C (lv' := [(7, .int ((nI 0))), (6, .null), (0, .ref x0), (1, .int x1), (2, .long x2), (4, .int x4), (5, .int x5)]) (Nat.le_of_ble_eq_true rfl) rfl dX7_scanCount_24 ?_
      exact cg_sub [2, 3, 4, 5, 6, 1, 0] rfl (tl_X7_scanCount_26 C  hR6 x0 x1 x2 x4 x5 none (((nI 0))) S_2 h)
    · replace h := h.2 b3 ho
      subst ho
      refine cg_cast (.ref b3) rfl ?_
      refine cg_astore (lv' := [(6, .ref b3), (0, .ref x0), (1, .int x1), (2, .long x2), (4, .int x4), (5, .int x5)]) C (Nat.le_of_ble_eq_true rfl) rfl dX7_scanCount_21 ?_
      refine cg_iconst C (x := nI 0) rfl dX7_scanCount_23 ?_
      refine cg_istore C (lv' := [(7, .int ((nI 0))), (6, .ref b3), (0, .ref x0), (1, .int x1), (2, .long x2), (4, .int x4), (5, .int x5)]) (Nat.le_of_ble_eq_true rfl) rfl dX7_scanCount_24 ?_
      exact cg_sub [2, 3, 4, 5, 6, 1, 0] rfl (tl_X7_scanCount_26 C  hR6 x0 x1 x2 x4 x5 (some b3) (((nI 0))) S_2 h)
set_option maxRecDepth 20000 in
theorem tl_X7_scanCount_6 (C : cC p s m args meth c cX7_scanCount 8 (some .int) A D Y tp dp RX7) {post : Int32 → cS → Prop}   (x0 : Nat) (x1 : Int32) (x2 : Int64) (x4 : Int32) (x5 : Int32) (S : cS) (h : k_X7_scanCount_6L post dp  x0 x1 x2 x4 x5 S) : cG p l e (cRm 4 0 0 85) s m args below meth c A D Y 8 (MQ below (cQi post D Y A) args s 0 0 A) 0 0 6 [(0, .ref x0), (1, .int x1), (2, .long x2), (4, .int x4), (5, .int x5)] [] S :=
  h (fun y => cG p l e (cRm 4 0 0 85) s m args below meth c A D Y 8 (MQ below (cQi post D Y A) args s 0 0 A) 0 0 6 [(0, .ref (y.1)), (1, .int (y.2.1)), (2, .long (y.2.2.1)), (4, .int (y.2.2.2.1)), (5, .int (y.2.2.2.2.1))] [] (y.2.2.2.2.2)) (fun y hy => tb_X7_scanCount_6 C   (fun b0 b1 b2 b3 b4 S z => z) (y.1) (y.2.1) (y.2.2.1) (y.2.2.2.1) (y.2.2.2.2.1) (y.2.2.2.2.2) hy)
end S_X7_scanCount
set_option maxHeartbeats 1000000 in
set_option maxRecDepth 20000 in
theorem t_X7_scanCount (l : Launch) (x0 : Nat) (x1 : Int32) (x2 : Int64) (S : cS) (dp : Nat) {P : Int32 → cS → Prop} (h : k_X7_scanCount P dp x0 x1 x2 S) : cMet (cQi P) l yX7_scanCount cX7_scanCount 8 (some .int) 4 0 0 85 [.ref x0, .int x1, .long x2] S dp := by
  intro D Y tp sz
  refine cg_body (by decide +kernel) (Nat.le_of_ble_eq_true rfl) ?_
  intro p e s m args below meth c C
  generalize va_A (cWd Y S) sz = A at C ⊢
  have C : cC p s m args meth c cX7_scanCount 8 (some .int) A D Y tp dp RX7 := C
  refine cg_lv (lv' := [(0, .ref x0), (1, .int x1), (2, .long x2)]) rfl ?_
  unfold k_X7_scanCount at h
  refine cg_iconst C (x := nI 0) rfl dX7_scanCount_0 ?_
  refine cg_istore C (lv' := [(4, .int ((nI 0))), (0, .ref x0), (1, .int x1), (2, .long x2)]) (Nat.le_of_ble_eq_true rfl) rfl dX7_scanCount_1 ?_
  refine cg_iconst C (x := nI 0) rfl dX7_scanCount_3 ?_
  refine cg_istore C (lv' := [(5, .int ((nI 0))), (4, .int ((nI 0))), (0, .ref x0), (1, .int x1), (2, .long x2)]) (Nat.le_of_ble_eq_true rfl) rfl dX7_scanCount_4 ?_
  exact cg_sub [2, 3, 4, 1, 0] rfl (tl_X7_scanCount_6 C   x0 x1 x2 (((nI 0))) (((nI 0))) S h)
def k_X7_scanRarities_55 (Q : cS → Prop) (dp : Nat) (R8 : Nat → Nat → Nat → Int32 → Int32 → cS → Prop) (R55 : Nat → Nat → Nat → Int32 → Int32 → Nat → Int32 → cS → Prop) (x0 : Nat) (x1 : Nat) (x2 : Nat) (x3 : Int32) (x4 : Int32) (x5 : Nat) (x6 : Int32) (S : cS) : Prop :=
cA S x5 4 ∧ (k_X4_tokenCount (fun r_9 S_9 => 
((r_9 ≤ x6 →
  ∀ x4_10 : Int32, x4_10 = x4 + nI 1 → R8 x0 x1 x2 x3 x4_10 S_9) ∧
 (¬ r_9 ≤ x6 →
  cA S_9 x0 7 ∧ ((∃ b11 : Nat, cr S_9 229 x0 = some b11 ∧ (cX S_9 b11 14 x4 ∧ (cA S_9 x5 4 ∧ (cA S_9 x5 4 ∧ (k_X4_tokenAt (fun r_12 S_12 => 
  k_X7_scanCount (fun r_13 S_13 => 
  k_X7_rarityOf (fun r_14 S_14 => 
  cX S_14 b11 14 x4 ∧ (∀ S15 : cS, S15 = cSI S_14 b11 (x4).toNatClampNeg ((((cI S_9 b11 (x4).toNatClampNeg)) + r_14)) → ∀ x6_16 : Int32, x6_16 = x6 + nI 1 → R55 x0 x1 x2 x3 x4 x5 x6_16 S15)) dp x3 r_13 S_13) dp x2 ((ci S_9 129 x5)) r_12 S_12) dp x5 x6 S_9))))))))) dp x5 S)
def k_X7_scanRarities_55L (Q : cS → Prop) (dp : Nat) (R8 : Nat → Nat → Nat → Int32 → Int32 → cS → Prop) (x0 : Nat) (x1 : Nat) (x2 : Nat) (x3 : Int32) (x4 : Int32) (x5 : Nat) (x6 : Int32) (S : cS) : Prop :=
  lfp (X := Nat × Nat × Nat × Int32 × Int32 × Nat × Int32 × cS) (fun P y => k_X7_scanRarities_55 Q dp R8 (fun b0 b1 b2 b3 b4 b5 b6 S => P (b0, b1, b2, b3, b4, b5, b6, S)) y.1 y.2.1 y.2.2.1 y.2.2.2.1 y.2.2.2.2.1 y.2.2.2.2.2.1 y.2.2.2.2.2.2.1 y.2.2.2.2.2.2.2) (x0, x1, x2, x3, x4, x5, x6, S)
def k_X7_scanRarities_8 (Q : cS → Prop) (dp : Nat) (R8 : Nat → Nat → Nat → Int32 → Int32 → cS → Prop) (x0 : Nat) (x1 : Nat) (x2 : Nat) (x3 : Int32) (x4 : Int32) (S : cS) : Prop :=
cA S x1 6 ∧ ((∃ b2 : Nat, cr S 193 x1 = some b2 ∧ (cA S b2 12 ∧ (k_Jx4a65c_size_8abf5 (fun r_3 S_3 => 
((r_3 ≤ x4 →
  Q S_3) ∧
 (¬ r_3 ≤ x4 →
  cA S_3 x0 7 ∧ ((∃ b4 : Nat, cr S_3 229 x0 = some b4 ∧ (cA S_3 b4 14 ∧ (((((nI (cn S_3 b4))) ≤ x4 →
    Q S_3) ∧
   (¬ ((nI (cn S_3 b4))) ≤ x4 →
    cA S_3 x1 6 ∧ ((∃ b5 : Nat, cr S_3 193 x1 = some b5 ∧ (cA S_3 b5 12 ∧ (k_Jx4a65c_get_915e3 (fun r_6 S_6 => 
    cA S_6 r_6 4 ∧ (cA S_6 x0 7 ∧ ((∃ b7 : Nat, cr S_6 229 x0 = some b7 ∧ (cX S_6 b7 14 x4 ∧ (∀ S8 : cS, S8 = cSI S_6 b7 (x4).toNatClampNeg ((nI 0)) → k_X7_scanRarities_55L Q dp R8 x0 x1 x2 x3 x4 r_6 (((nI 0))) S8)))))) dp b5 x4 S_3))))))))))))) dp b2 S))))
def k_X7_scanRarities_8L (Q : cS → Prop) (dp : Nat)  (x0 : Nat) (x1 : Nat) (x2 : Nat) (x3 : Int32) (x4 : Int32) (S : cS) : Prop :=
  lfp (X := Nat × Nat × Nat × Int32 × Int32 × cS) (fun P y => k_X7_scanRarities_8 Q dp  (fun b0 b1 b2 b3 b4 S => P (b0, b1, b2, b3, b4, S)) y.1 y.2.1 y.2.2.1 y.2.2.2.1 y.2.2.2.2.1 y.2.2.2.2.2) (x0, x1, x2, x3, x4, S)
def k_X7_scanRarities (Q : cS → Prop) (dp : Nat) (x0 : Nat) (x1 : Nat) (x2 : Nat) (S : cS) : Prop :=
cA S x2 10 ∧ (k_X10_liveCount (fun r_1 S_1 => 
k_X7_scanRarities_8L Q dp  x0 x1 x2 r_1 (((nI 0))) S_1) dp x2 S)
section S_X7_scanRarities
variable {p : Program} {l : Launch} {e : Env} {s : State} {m : MethodId} {args : Array Value} {below : List Frame} {meth : Method} {c : Code} {A : Nat → Prop} {D : va_G} {Y : cY} {tp dp : Nat}
set_option maxRecDepth 20000 in
theorem tb_X7_scanRarities_55 (C : cC p s m args meth c cX7_scanRarities 7 none A D Y tp dp RX7) {post : cS → Prop} {R8 : Nat → Nat → Nat → Int32 → Int32 → cS → Prop} {R55 : Nat → Nat → Nat → Int32 → Int32 → Nat → Int32 → cS → Prop} (hR8 : ∀ (x0 : Nat) (x1 : Nat) (x2 : Nat) (x3 : Int32) (x4 : Int32) (S : cS), R8 x0 x1 x2 x3 x4 S → cG p l e (cRm 5 0 0 112) s m args below meth c A D Y 7 (MQ below (cQv post D Y A) args s 0 0 A) 0 0 8 [(0, .ref x0), (1, .ref x1), (2, .ref x2), (3, .int x3), (4, .int x4)] [] S) (hR55 : ∀ (x0 : Nat) (x1 : Nat) (x2 : Nat) (x3 : Int32) (x4 : Int32) (x5 : Nat) (x6 : Int32) (S : cS), R55 x0 x1 x2 x3 x4 x5 x6 S → cG p l e (cRm 5 0 0 112) s m args below meth c A D Y 7 (MQ below (cQv post D Y A) args s 0 0 A) 0 0 55 [(0, .ref x0), (1, .ref x1), (2, .ref x2), (3, .int x3), (4, .int x4), (5, .ref x5), (6, .int x6)] [] S) (x0 : Nat) (x1 : Nat) (x2 : Nat) (x3 : Int32) (x4 : Int32) (x5 : Nat) (x6 : Int32) (S : cS) (h : k_X7_scanRarities_55 post dp R8 R55 x0 x1 x2 x3 x4 x5 x6 S) : cG p l e (cRm 5 0 0 112) s m args below meth c A D Y 7 (MQ below (cQv post D Y A) args s 0 0 A) 0 0 55 [(0, .ref x0), (1, .ref x1), (2, .ref x2), (3, .int x3), (4, .int x4), (5, .ref x5), (6, .int x6)] [] S := by
  unfold k_X7_scanRarities_55 at h
  refine cg_iload C 6 rfl dX7_scanRarities_55 ?_
  refine cg_aload C 5 rfl dX7_scanRarities_57 ?_
  obtain ⟨hc_59, h⟩ := h
  refine cg_calli C (t_X4_tokenCount l x5 S dp h) cc_X7_58 hc_59.1 hc_59.2 (by decide) rfl rfl ⟨by decide, by decide⟩ ⟨by decide, by decide⟩ rfl (Nat.le_of_ble_eq_true rfl) dX7_scanRarities_59 (fun r_9 S_9 h => ?_)
  refine cg_icmp_ge C 101 (by decide) dX7_scanRarities_62 (fun c_ => ?_) (fun c_ => ?_)
  · have h := h.1 c_
    obtain ⟨x4_10, e_x4_10⟩ : ∃ z : Int32, z = x4 + nI 1 := ⟨_, rfl⟩
    have h := h x4_10 e_x4_10
    refine cg_iinc C (lv' := [(4, .int x4_10), (0, .ref x0), (1, .ref x1), (2, .ref x2), (3, .int x3), (5, .ref x5), (6, .int x6)]) 4 rfl (by rw [e_x4_10]; rfl) (Nat.le_of_ble_eq_true rfl) rfl dX7_scanRarities_101 ?_
    refine cg_goto C 8 (by decide) dX7_scanRarities_104 ?_
    exact cg_sub [1, 2, 3, 4, 0] rfl (hR8 x0 x1 x2 x3 x4_10 S_9 h)
  · have h := h.2 c_
    refine cg_aload_n C (i := 0) rfl 0 rfl dX7_scanRarities_65 ?_
    obtain ⟨hc_66, h⟩ := h
    obtain ⟨b11, hb_b11, h⟩ := h
    refine cg_get C (k := 7) (j := 5) (.ref b11) hc_66.1 hc_66.2 (by decide) rfl (by decide) rfl (show cV _ 7 5 x0 = _ from congrArg va_rf hb_b11) cWs_wsX70 cl_X7_29 rfl dX7_scanRarities_66 ?_
    refine cg_iload C 4 rfl dX7_scanRarities_69 ?_
    refine cg_dup2 C rfl rfl dX7_scanRarities_71 ?_
    obtain ⟨hc_72, h⟩ := h
    refine cg_ialoadR C hc_72 dX7_scanRarities_72 ?_
    refine cg_iload_n C (i := 3) rfl 3 rfl dX7_scanRarities_73 ?_
    refine cg_aload_n C (i := 2) rfl 2 rfl dX7_scanRarities_74 ?_
    refine cg_aload C 5 rfl dX7_scanRarities_75 ?_
    obtain ⟨hc_77, h⟩ := h
    refine cg_get C (k := 4) (j := 1) (.int (ci S_9 129 x5)) hc_77.1 hc_77.2 (by decide) rfl (by decide) rfl rfl cWs_wsX40 cl_X7_61 rfl dX7_scanRarities_77 ?_
    refine cg_aload C 5 rfl dX7_scanRarities_80 ?_
    refine cg_iload C 6 rfl dX7_scanRarities_82 ?_
    obtain ⟨hc_84, h⟩ := h
    refine cg_calll C (t_X4_tokenAt l x5 x6 S_9 dp h) cc_X7_65 hc_84.1 hc_84.2 (by decide) rfl rfl ⟨by decide, by decide⟩ ⟨by decide, by decide⟩ rfl (Nat.le_of_ble_eq_true rfl) dX7_scanRarities_84 (fun r_12 S_12 h => ?_)
    refine cg_callsi C (t_X7_scanCount l x2 ((ci S_9 129 x5)) r_12 S_12 dp h) cc_X7_166 rfl ⟨by decide, by decide⟩ ⟨by decide, by decide⟩ rfl (Nat.le_of_ble_eq_true rfl) dX7_scanRarities_87 (fun r_13 S_13 h => ?_)
    refine cg_callsi C (t_X7_rarityOf l x3 r_13 S_13 dp h) cc_X7_73 rfl ⟨by decide, by decide⟩ ⟨by decide, by decide⟩ rfl (Nat.le_of_ble_eq_true rfl) dX7_scanRarities_90 (fun r_14 S_14 h => ?_)
    refine cg_iadd C dX7_scanRarities_93 ?_
    obtain ⟨hc_94, h⟩ := h
    refine cg_iastoreR C hc_94 dX7_scanRarities_94 ?_
    refine cg_nm (fun S15 e_S15 => ?_)
    have h := h S15 e_S15
    obtain ⟨x6_16, e_x6_16⟩ : ∃ z : Int32, z = x6 + nI 1 := ⟨_, rfl⟩
    have h := h x6_16 e_x6_16
    refine cg_iinc C (lv' := [(6, .int x6_16), (0, .ref x0), (1, .ref x1), (2, .ref x2), (3, .int x3), (4, .int x4), (5, .ref x5)]) 6 rfl (by rw [e_x6_16]; rfl) (Nat.le_of_ble_eq_true rfl) rfl dX7_scanRarities_95 ?_
    refine cg_goto C 55 (by decide) dX7_scanRarities_98 ?_
    exact cg_sub [1, 2, 3, 4, 5, 6, 0] rfl (hR55 x0 x1 x2 x3 x4 x5 x6_16 S15 h)
set_option maxRecDepth 20000 in
theorem tl_X7_scanRarities_55 (C : cC p s m args meth c cX7_scanRarities 7 none A D Y tp dp RX7) {post : cS → Prop} {R8 : Nat → Nat → Nat → Int32 → Int32 → cS → Prop} (hR8 : ∀ (x0 : Nat) (x1 : Nat) (x2 : Nat) (x3 : Int32) (x4 : Int32) (S : cS), R8 x0 x1 x2 x3 x4 S → cG p l e (cRm 5 0 0 112) s m args below meth c A D Y 7 (MQ below (cQv post D Y A) args s 0 0 A) 0 0 8 [(0, .ref x0), (1, .ref x1), (2, .ref x2), (3, .int x3), (4, .int x4)] [] S) (x0 : Nat) (x1 : Nat) (x2 : Nat) (x3 : Int32) (x4 : Int32) (x5 : Nat) (x6 : Int32) (S : cS) (h : k_X7_scanRarities_55L post dp R8 x0 x1 x2 x3 x4 x5 x6 S) : cG p l e (cRm 5 0 0 112) s m args below meth c A D Y 7 (MQ below (cQv post D Y A) args s 0 0 A) 0 0 55 [(0, .ref x0), (1, .ref x1), (2, .ref x2), (3, .int x3), (4, .int x4), (5, .ref x5), (6, .int x6)] [] S :=
  h (fun y => cG p l e (cRm 5 0 0 112) s m args below meth c A D Y 7 (MQ below (cQv post D Y A) args s 0 0 A) 0 0 55 [(0, .ref (y.1)), (1, .ref (y.2.1)), (2, .ref (y.2.2.1)), (3, .int (y.2.2.2.1)), (4, .int (y.2.2.2.2.1)), (5, .ref (y.2.2.2.2.2.1)), (6, .int (y.2.2.2.2.2.2.1))] [] (y.2.2.2.2.2.2.2)) (fun y hy => tb_X7_scanRarities_55 C  hR8 (fun b0 b1 b2 b3 b4 b5 b6 S z => z) (y.1) (y.2.1) (y.2.2.1) (y.2.2.2.1) (y.2.2.2.2.1) (y.2.2.2.2.2.1) (y.2.2.2.2.2.2.1) (y.2.2.2.2.2.2.2) hy)
set_option maxRecDepth 20000 in
theorem tb_X7_scanRarities_8 (C : cC p s m args meth c cX7_scanRarities 7 none A D Y tp dp RX7) {post : cS → Prop} {R8 : Nat → Nat → Nat → Int32 → Int32 → cS → Prop} (hR8 : ∀ (x0 : Nat) (x1 : Nat) (x2 : Nat) (x3 : Int32) (x4 : Int32) (S : cS), R8 x0 x1 x2 x3 x4 S → cG p l e (cRm 5 0 0 112) s m args below meth c A D Y 7 (MQ below (cQv post D Y A) args s 0 0 A) 0 0 8 [(0, .ref x0), (1, .ref x1), (2, .ref x2), (3, .int x3), (4, .int x4)] [] S) (x0 : Nat) (x1 : Nat) (x2 : Nat) (x3 : Int32) (x4 : Int32) (S : cS) (h : k_X7_scanRarities_8 post dp R8 x0 x1 x2 x3 x4 S) : cG p l e (cRm 5 0 0 112) s m args below meth c A D Y 7 (MQ below (cQv post D Y A) args s 0 0 A) 0 0 8 [(0, .ref x0), (1, .ref x1), (2, .ref x2), (3, .int x3), (4, .int x4)] [] S := by
  unfold k_X7_scanRarities_8 at h
  refine cg_iload C 4 rfl dX7_scanRarities_8 ?_
  refine cg_aload_n C (i := 1) rfl 1 rfl dX7_scanRarities_10 ?_
  obtain ⟨hc_11, h⟩ := h
  obtain ⟨b2, hb_b2, h⟩ := h
  refine cg_get C (k := 6) (j := 1) (.ref b2) hc_11.1 hc_11.2 (by decide) rfl (by decide) rfl (show cV _ 6 1 x1 = _ from congrArg va_rf hb_b2) cWs_wsX60 cl_X7_41 rfl dX7_scanRarities_11 ?_
  obtain ⟨hc_14, h⟩ := h
  refine cg_calli C (t_Jx4a65c_size_8abf5 l b2 S dp h) cc_X7_47 hc_14.1 hc_14.2 (by decide) rfl rfl ⟨by decide, by decide⟩ ⟨by decide, by decide⟩ rfl (Nat.le_of_ble_eq_true rfl) dX7_scanRarities_14 (fun r_3 S_3 h => ?_)
  refine cg_icmp_ge C 107 (by decide) dX7_scanRarities_17 (fun c_ => ?_) (fun c_ => ?_)
  · have h := h.1 c_
    exact cg_vret C h dX7_scanRarities_107 (by decide) (by decide)
  · have h := h.2 c_
    refine cg_iload C 4 rfl dX7_scanRarities_20 ?_
    refine cg_aload_n C (i := 0) rfl 0 rfl dX7_scanRarities_22 ?_
    obtain ⟨hc_23, h⟩ := h
    obtain ⟨b4, hb_b4, h⟩ := h
    refine cg_get C (k := 7) (j := 5) (.ref b4) hc_23.1 hc_23.2 (by decide) rfl (by decide) rfl (show cV _ 7 5 x0 = _ from congrArg va_rf hb_b4) cWs_wsX70 cl_X7_29 rfl dX7_scanRarities_23 ?_
    obtain ⟨hc_26, h⟩ := h
    refine cg_alen C hc_26.1 hc_26.2 (by decide) (by decide) dX7_scanRarities_26 ?_
    refine cg_icmp_ge C 107 (by decide) dX7_scanRarities_27 (fun c_ => ?_) (fun c_ => ?_)
    · have h := h.1 c_
      exact cg_vret C h dX7_scanRarities_107 (by decide) (by decide)
    · have h := h.2 c_
      refine cg_aload_n C (i := 1) rfl 1 rfl dX7_scanRarities_30 ?_
      obtain ⟨hc_31, h⟩ := h
      obtain ⟨b5, hb_b5, h⟩ := h
      refine cg_get C (k := 6) (j := 1) (.ref b5) hc_31.1 hc_31.2 (by decide) rfl (by decide) rfl (show cV _ 6 1 x1 = _ from congrArg va_rf hb_b5) cWs_wsX60 cl_X7_41 rfl dX7_scanRarities_31 ?_
      refine cg_iload C 4 rfl dX7_scanRarities_34 ?_
      obtain ⟨hc_36, h⟩ := h
      refine cg_callr C (t_Jx4a65c_get_915e3 l b5 x4 S_3 dp h) cc_X7_52 hc_36.1 hc_36.2 (by decide) rfl rfl ⟨by decide, by decide⟩ ⟨by decide, by decide⟩ rfl (Nat.le_of_ble_eq_true rfl) dX7_scanRarities_36 (fun r_6 S_6 h => ?_)
      obtain ⟨hc_39, h⟩ := h
      refine cg_ccast C (k := 4) hc_39.1 hc_39.2 (by decide) rfl cnc_X7_56 dX7_scanRarities_39 ?_
      refine cg_astore (lv' := [(5, .ref r_6), (0, .ref x0), (1, .ref x1), (2, .ref x2), (3, .int x3), (4, .int x4)]) C (Nat.le_of_ble_eq_true rfl) rfl dX7_scanRarities_42 ?_
      refine cg_aload_n C (i := 0) rfl 1 rfl dX7_scanRarities_44 ?_
      obtain ⟨hc_45, h⟩ := h
      obtain ⟨b7, hb_b7, h⟩ := h
      refine cg_get C (k := 7) (j := 5) (.ref b7) hc_45.1 hc_45.2 (by decide) rfl (by decide) rfl (show cV _ 7 5 x0 = _ from congrArg va_rf hb_b7) cWs_wsX70 cl_X7_29 rfl dX7_scanRarities_45 ?_
      refine cg_iload C 5 rfl dX7_scanRarities_48 ?_
      refine cg_iconst C (x := nI 0) rfl dX7_scanRarities_50 ?_
      obtain ⟨hc_51, h⟩ := h
      refine cg_iastoreR C hc_51 dX7_scanRarities_51 ?_
      refine cg_nm (fun S8 e_S8 => ?_)
      have h := h S8 e_S8
      refine cg_iconst C (x := nI 0) rfl dX7_scanRarities_52 ?_
      refine cg_istore C (lv' := [(6, .int ((nI 0))), (5, .ref r_6), (0, .ref x0), (1, .ref x1), (2, .ref x2), (3, .int x3), (4, .int x4)]) (Nat.le_of_ble_eq_true rfl) rfl dX7_scanRarities_53 ?_
      exact cg_sub [2, 3, 4, 5, 6, 1, 0] rfl (tl_X7_scanRarities_55 C  hR8 x0 x1 x2 x3 x4 r_6 (((nI 0))) S8 h)
set_option maxRecDepth 20000 in
theorem tl_X7_scanRarities_8 (C : cC p s m args meth c cX7_scanRarities 7 none A D Y tp dp RX7) {post : cS → Prop}   (x0 : Nat) (x1 : Nat) (x2 : Nat) (x3 : Int32) (x4 : Int32) (S : cS) (h : k_X7_scanRarities_8L post dp  x0 x1 x2 x3 x4 S) : cG p l e (cRm 5 0 0 112) s m args below meth c A D Y 7 (MQ below (cQv post D Y A) args s 0 0 A) 0 0 8 [(0, .ref x0), (1, .ref x1), (2, .ref x2), (3, .int x3), (4, .int x4)] [] S :=
  h (fun y => cG p l e (cRm 5 0 0 112) s m args below meth c A D Y 7 (MQ below (cQv post D Y A) args s 0 0 A) 0 0 8 [(0, .ref (y.1)), (1, .ref (y.2.1)), (2, .ref (y.2.2.1)), (3, .int (y.2.2.2.1)), (4, .int (y.2.2.2.2.1))] [] (y.2.2.2.2.2)) (fun y hy => tb_X7_scanRarities_8 C   (fun b0 b1 b2 b3 b4 S z => z) (y.1) (y.2.1) (y.2.2.1) (y.2.2.2.1) (y.2.2.2.2.1) (y.2.2.2.2.2) hy)
end S_X7_scanRarities
set_option maxHeartbeats 1000000 in
set_option maxRecDepth 20000 in
theorem t_X7_scanRarities (l : Launch) (x0 : Nat) (x1 : Nat) (x2 : Nat) (S : cS) (dp : Nat) {P : cS → Prop} (h : k_X7_scanRarities P dp x0 x1 x2 S) : cMet (cQv P) l yX7_scanRarities cX7_scanRarities 7 none 5 0 0 112 [.ref x0, .ref x1, .ref x2] S dp := by
  intro D Y tp sz
  refine cg_body (by decide +kernel) (Nat.le_of_ble_eq_true rfl) ?_
  intro p e s m args below meth c C
  generalize va_A (cWd Y S) sz = A at C ⊢
  have C : cC p s m args meth c cX7_scanRarities 7 none A D Y tp dp RX7 := C
  refine cg_lv (lv' := [(0, .ref x0), (1, .ref x1), (2, .ref x2)]) rfl ?_
  unfold k_X7_scanRarities at h
  refine cg_aload_n C (i := 2) rfl 2 rfl dX7_scanRarities_0 ?_
  obtain ⟨hc_1, h⟩ := h
  refine cg_calli C (t_X10_liveCount l x2 S dp h) cc_X7_35 hc_1.1 hc_1.2 (by decide) rfl rfl ⟨by decide, by decide⟩ ⟨by decide, by decide⟩ rfl (Nat.le_of_ble_eq_true rfl) dX7_scanRarities_1 (fun r_1 S_1 h => ?_)
  refine cg_istore_n C (i := 3) (lv' := [(3, .int r_1), (0, .ref x0), (1, .ref x1), (2, .ref x2)]) rfl (Nat.le_of_ble_eq_true rfl) rfl dX7_scanRarities_4 ?_
  refine cg_iconst C (x := nI 0) rfl dX7_scanRarities_5 ?_
  refine cg_istore C (lv' := [(4, .int ((nI 0))), (3, .int r_1), (0, .ref x0), (1, .ref x1), (2, .ref x2)]) (Nat.le_of_ble_eq_true rfl) rfl dX7_scanRarities_6 ?_
  exact cg_sub [2, 3, 4, 1, 0] rfl (tl_X7_scanRarities_8 C   x0 x1 x2 r_1 (((nI 0))) S_1 h)
def k_X7_scannedCount_98 (Q : Int32 → cS → Prop) (dp : Nat) (R5 : Nat → Nat → Nat → Int32 → Int32 → cS → Prop) (x0 : Nat) (x1 : Nat) (x2 : Nat) (x3 : Int32) (x4 : Int32) (S : cS) : Prop :=
∀ x4_5 : Int32, x4_5 = x4 + nI 1 → R5 x0 x1 x2 x3 x4_5 S
def k_X7_scannedCount_92 (Q : Int32 → cS → Prop) (dp : Nat) (R5 : Nat → Nat → Nat → Int32 → Int32 → cS → Prop) (R25 : Nat → Nat → Nat → Int32 → Int32 → Option Nat → Int32 → cS → Prop) (x0 : Nat) (x1 : Nat) (x2 : Nat) (x3 : Int32) (x4 : Int32) (x5 : Nat) (x6 : Int32) (S : cS) : Prop :=
∀ x6_9 : Int32, x6_9 = x6 + nI 1 → R25 x0 x1 x2 x3 x4 (some x5) x6_9 S
def k_X7_scannedCount_90 (Q : Int32 → cS → Prop) (dp : Nat) (R5 : Nat → Nat → Nat → Int32 → Int32 → cS → Prop) (R25 : Nat → Nat → Nat → Int32 → Int32 → Option Nat → Int32 → cS → Prop) (x0 : Nat) (x1 : Nat) (x2 : Nat) (x4 : Int32) (x5 : Nat) (x6 : Int32) (t0 : Int32) (t1 : Int32) (S : cS) : Prop :=
∀ x3_15 : Int32, x3_15 = (t1 + t0) → k_X7_scannedCount_92 Q dp R5 R25 x0 x1 x2 x3_15 x4 x5 x6 S
def k_X7_scannedCount_25 (Q : Int32 → cS → Prop) (dp : Nat) (R5 : Nat → Nat → Nat → Int32 → Int32 → cS → Prop) (R25 : Nat → Nat → Nat → Int32 → Int32 → Option Nat → Int32 → cS → Prop) (x0 : Nat) (x1 : Nat) (x2 : Nat) (x3 : Int32) (x4 : Int32) (x5 : Option Nat) (x6 : Int32) (S : cS) : Prop :=
((x5 = none →
  k_X7_scannedCount_98 Q dp R5 x0 x1 x2 x3 x4 S) ∧
 (∀ b4 : Nat, x5 = some b4 →
  cA S b4 2 ∧ ((∃ b6 : Nat, cr S 64 b4 = some b6 ∧ (cA S b6 8 ∧ (k_X8_size (fun r_7 S_7 => 
  ((r_7 ≤ x6 →
    k_X7_scannedCount_98 Q dp R5 x0 x1 x2 x3 x4 S_7) ∧
   (¬ r_7 ≤ x6 →
    cA S_7 b4 2 ∧ (k_X2_isLive (fun r_8 S_8 => 
    ((r_8 = 0 →
      k_X7_scannedCount_92 Q dp R5 R25 x0 x1 x2 x3 x4 b4 x6 S_8) ∧
     (¬ r_8 = 0 →
      cA S_8 b4 2 ∧ ((∃ b10 : Nat, cr S_8 64 b4 = some b10 ∧ (cA S_8 b10 8 ∧ ((∃ b11 : Nat, cr S_8 257 b10 = some b11 ∧ (cA S_8 b11 12 ∧ (k_Jx4a65c_get_915e3 (fun r_12 S_12 => 
      cA S_12 r_12 0 ∧ (cA S_12 x0 7 ∧ (k_X7_scanDocument (fun S_13 => 
      cA S_13 x0 7 ∧ (k_X7_valueAt (fun r_14 S_14 => 
      ((¬ r_14 = (((-1))) →
        k_X7_scannedCount_90 Q dp R5 R25 x0 x1 x2 x4 b4 x6 ((nI 1)) x3 S_14) ∧
       (r_14 = (((-1))) →
        k_X7_scannedCount_90 Q dp R5 R25 x0 x1 x2 x4 b4 x6 ((nI 0)) x3 S_14))) dp x0 x2 ((nI 0)) S_13)) dp x0 x2 r_12 S_12))) dp b11 x6 S_8)))))))))) dp b4 x6 S_7)))) dp b6 S))))))
def k_X7_scannedCount_25L (Q : Int32 → cS → Prop) (dp : Nat) (R5 : Nat → Nat → Nat → Int32 → Int32 → cS → Prop) (x0 : Nat) (x1 : Nat) (x2 : Nat) (x3 : Int32) (x4 : Int32) (x5 : Option Nat) (x6 : Int32) (S : cS) : Prop :=
  lfp (X := Nat × Nat × Nat × Int32 × Int32 × Option Nat × Int32 × cS) (fun P y => k_X7_scannedCount_25 Q dp R5 (fun b0 b1 b2 b3 b4 b5 b6 S => P (b0, b1, b2, b3, b4, b5, b6, S)) y.1 y.2.1 y.2.2.1 y.2.2.2.1 y.2.2.2.2.1 y.2.2.2.2.2.1 y.2.2.2.2.2.2.1 y.2.2.2.2.2.2.2) (x0, x1, x2, x3, x4, x5, x6, S)
def k_X7_scannedCount_5 (Q : Int32 → cS → Prop) (dp : Nat) (R5 : Nat → Nat → Nat → Int32 → Int32 → cS → Prop) (x0 : Nat) (x1 : Nat) (x2 : Nat) (x3 : Int32) (x4 : Int32) (S : cS) : Prop :=
cA S x1 10 ∧ (k_X10_size (fun r_1 S_1 => 
((r_1 ≤ x4 →
  Q x3 S_1) ∧
 (¬ r_1 ≤ x4 →
  cA S_1 x1 10 ∧ (k_X10_at (fun r_2 S_2 => 
  ((r_2 = none →
    k_X7_scannedCount_25L Q dp R5 x0 x1 x2 x3 x4 none (((nI 0))) S_2) ∧
   (∀ b3 : Nat, r_2 = some b3 →
    k_X7_scannedCount_25L Q dp R5 x0 x1 x2 x3 x4 (some b3) (((nI 0))) S_2))) dp x1 x4 S_1)))) dp x1 S)
def k_X7_scannedCount_5L (Q : Int32 → cS → Prop) (dp : Nat)  (x0 : Nat) (x1 : Nat) (x2 : Nat) (x3 : Int32) (x4 : Int32) (S : cS) : Prop :=
  lfp (X := Nat × Nat × Nat × Int32 × Int32 × cS) (fun P y => k_X7_scannedCount_5 Q dp  (fun b0 b1 b2 b3 b4 S => P (b0, b1, b2, b3, b4, S)) y.1 y.2.1 y.2.2.1 y.2.2.2.1 y.2.2.2.2.1 y.2.2.2.2.2) (x0, x1, x2, x3, x4, S)
def k_X7_scannedCount (Q : Int32 → cS → Prop) (dp : Nat) (x0 : Nat) (x1 : Nat) (x2 : Nat) (S : cS) : Prop :=
k_X7_scannedCount_5L Q dp  x0 x1 x2 (((nI 0))) (((nI 0))) S
section S_X7_scannedCount
variable {p : Program} {l : Launch} {e : Env} {s : State} {m : MethodId} {args : Array Value} {below : List Frame} {meth : Method} {c : Code} {A : Nat → Prop} {D : va_G} {Y : cY} {tp dp : Nat}
set_option maxRecDepth 20000 in
theorem tb_X7_scannedCount_98 (C : cC p s m args meth c cX7_scannedCount 7 (some .int) A D Y tp dp RX7) {post : Int32 → cS → Prop} {R5 : Nat → Nat → Nat → Int32 → Int32 → cS → Prop} (hR5 : ∀ (x0 : Nat) (x1 : Nat) (x2 : Nat) (x3 : Int32) (x4 : Int32) (S : cS), R5 x0 x1 x2 x3 x4 S → cG p l e (cRm 6 0 0 131) s m args below meth c A D Y 7 (MQ below (cQi post D Y A) args s 0 0 A) 0 0 5 [(0, .ref x0), (1, .ref x1), (2, .ref x2), (3, .int x3), (4, .int x4)] [] S) (x0 : Nat) (x1 : Nat) (x2 : Nat) (x3 : Int32) (x4 : Int32) (S : cS) (h : k_X7_scannedCount_98 post dp R5 x0 x1 x2 x3 x4 S) : cG p l e (cRm 6 0 0 131) s m args below meth c A D Y 7 (MQ below (cQi post D Y A) args s 0 0 A) 0 0 98 [(0, .ref x0), (1, .ref x1), (2, .ref x2), (3, .int x3), (4, .int x4)] [] S := by
  unfold k_X7_scannedCount_98 at h
  obtain ⟨x4_5, e_x4_5⟩ : ∃ z : Int32, z = x4 + nI 1 := ⟨_, rfl⟩
  have h := h x4_5 e_x4_5
  refine cg_iinc C (lv' := [(4, .int x4_5), (0, .ref x0), (1, .ref x1), (2, .ref x2), (3, .int x3)]) 4 rfl (by rw [e_x4_5]; rfl) (Nat.le_of_ble_eq_true rfl) rfl dX7_scannedCount_98 ?_
  refine cg_goto C 5 (by decide) dX7_scannedCount_101 ?_
  exact cg_sub [1, 2, 3, 4, 0] rfl (hR5 x0 x1 x2 x3 x4_5 S h)
set_option maxRecDepth 20000 in
theorem tb_X7_scannedCount_92 (C : cC p s m args meth c cX7_scannedCount 7 (some .int) A D Y tp dp RX7) {post : Int32 → cS → Prop} {R5 : Nat → Nat → Nat → Int32 → Int32 → cS → Prop} {R25 : Nat → Nat → Nat → Int32 → Int32 → Option Nat → Int32 → cS → Prop} (hR5 : ∀ (x0 : Nat) (x1 : Nat) (x2 : Nat) (x3 : Int32) (x4 : Int32) (S : cS), R5 x0 x1 x2 x3 x4 S → cG p l e (cRm 6 0 0 131) s m args below meth c A D Y 7 (MQ below (cQi post D Y A) args s 0 0 A) 0 0 5 [(0, .ref x0), (1, .ref x1), (2, .ref x2), (3, .int x3), (4, .int x4)] [] S) (hR25 : ∀ (x0 : Nat) (x1 : Nat) (x2 : Nat) (x3 : Int32) (x4 : Int32) (x5 : Option Nat) (x6 : Int32) (S : cS), R25 x0 x1 x2 x3 x4 x5 x6 S → cG p l e (cRm 6 0 0 131) s m args below meth c A D Y 7 (MQ below (cQi post D Y A) args s 0 0 A) 0 0 25 [(0, .ref x0), (1, .ref x1), (2, .ref x2), (3, .int x3), (4, .int x4), (5, va_rf x5), (6, .int x6)] [] S) (x0 : Nat) (x1 : Nat) (x2 : Nat) (x3 : Int32) (x4 : Int32) (x5 : Nat) (x6 : Int32) (S : cS) (h : k_X7_scannedCount_92 post dp R5 R25 x0 x1 x2 x3 x4 x5 x6 S) : cG p l e (cRm 6 0 0 131) s m args below meth c A D Y 7 (MQ below (cQi post D Y A) args s 0 0 A) 0 0 92 [(0, .ref x0), (1, .ref x1), (2, .ref x2), (3, .int x3), (4, .int x4), (5, .ref x5), (6, .int x6)] [] S := by
  unfold k_X7_scannedCount_92 at h
  obtain ⟨x6_9, e_x6_9⟩ : ∃ z : Int32, z = x6 + nI 1 := ⟨_, rfl⟩
  have h := h x6_9 e_x6_9
  refine cg_iinc C (lv' := [(6, .int x6_9), (0, .ref x0), (1, .ref x1), (2, .ref x2), (3, .int x3), (4, .int x4), (5, .ref x5)]) 6 rfl (by rw [e_x6_9]; rfl) (Nat.le_of_ble_eq_true rfl) rfl dX7_scannedCount_92 ?_
  refine cg_goto C 25 (by decide) dX7_scannedCount_95 ?_
  exact cg_sub [1, 2, 3, 4, 5, 6, 0] rfl (hR25 x0 x1 x2 x3 x4 (some x5) x6_9 S h)
set_option maxRecDepth 20000 in
theorem tb_X7_scannedCount_90 (C : cC p s m args meth c cX7_scannedCount 7 (some .int) A D Y tp dp RX7) {post : Int32 → cS → Prop} {R5 : Nat → Nat → Nat → Int32 → Int32 → cS → Prop} {R25 : Nat → Nat → Nat → Int32 → Int32 → Option Nat → Int32 → cS → Prop} (hR5 : ∀ (x0 : Nat) (x1 : Nat) (x2 : Nat) (x3 : Int32) (x4 : Int32) (S : cS), R5 x0 x1 x2 x3 x4 S → cG p l e (cRm 6 0 0 131) s m args below meth c A D Y 7 (MQ below (cQi post D Y A) args s 0 0 A) 0 0 5 [(0, .ref x0), (1, .ref x1), (2, .ref x2), (3, .int x3), (4, .int x4)] [] S) (hR25 : ∀ (x0 : Nat) (x1 : Nat) (x2 : Nat) (x3 : Int32) (x4 : Int32) (x5 : Option Nat) (x6 : Int32) (S : cS), R25 x0 x1 x2 x3 x4 x5 x6 S → cG p l e (cRm 6 0 0 131) s m args below meth c A D Y 7 (MQ below (cQi post D Y A) args s 0 0 A) 0 0 25 [(0, .ref x0), (1, .ref x1), (2, .ref x2), (3, .int x3), (4, .int x4), (5, va_rf x5), (6, .int x6)] [] S) (x0 : Nat) (x1 : Nat) (x2 : Nat) (x4 : Int32) (x5 : Nat) (x6 : Int32) (t0 : Int32) (t1 : Int32) (S : cS) (h : k_X7_scannedCount_90 post dp R5 R25 x0 x1 x2 x4 x5 x6 t0 t1 S) : cG p l e (cRm 6 0 0 131) s m args below meth c A D Y 7 (MQ below (cQi post D Y A) args s 0 0 A) 0 0 90 [(0, .ref x0), (1, .ref x1), (2, .ref x2), (4, .int x4), (5, .ref x5), (6, .int x6)] [.int t0, .int t1] S := by
  unfold k_X7_scannedCount_90 at h
  refine cg_iadd C dX7_scannedCount_90 ?_
  refine cg_nmI (fun x3_15 e_x3_15 => ?_)
  have h := h x3_15 e_x3_15
  refine cg_istore_n C (i := 3) (lv' := [(3, .int x3_15), (0, .ref x0), (1, .ref x1), (2, .ref x2), (4, .int x4), (5, .ref x5), (6, .int x6)]) rfl (Nat.le_of_ble_eq_true rfl) rfl dX7_scannedCount_91 ?_
  exact cg_sub [1, 2, 3, 0, 4, 5, 6] rfl (tb_X7_scannedCount_92 C  hR5 hR25 x0 x1 x2 x3_15 x4 x5 x6 S h)
set_option maxRecDepth 20000 in
theorem tb_X7_scannedCount_25 (C : cC p s m args meth c cX7_scannedCount 7 (some .int) A D Y tp dp RX7) {post : Int32 → cS → Prop} {R5 : Nat → Nat → Nat → Int32 → Int32 → cS → Prop} {R25 : Nat → Nat → Nat → Int32 → Int32 → Option Nat → Int32 → cS → Prop} (hR5 : ∀ (x0 : Nat) (x1 : Nat) (x2 : Nat) (x3 : Int32) (x4 : Int32) (S : cS), R5 x0 x1 x2 x3 x4 S → cG p l e (cRm 6 0 0 131) s m args below meth c A D Y 7 (MQ below (cQi post D Y A) args s 0 0 A) 0 0 5 [(0, .ref x0), (1, .ref x1), (2, .ref x2), (3, .int x3), (4, .int x4)] [] S) (hR25 : ∀ (x0 : Nat) (x1 : Nat) (x2 : Nat) (x3 : Int32) (x4 : Int32) (x5 : Option Nat) (x6 : Int32) (S : cS), R25 x0 x1 x2 x3 x4 x5 x6 S → cG p l e (cRm 6 0 0 131) s m args below meth c A D Y 7 (MQ below (cQi post D Y A) args s 0 0 A) 0 0 25 [(0, .ref x0), (1, .ref x1), (2, .ref x2), (3, .int x3), (4, .int x4), (5, va_rf x5), (6, .int x6)] [] S) (x0 : Nat) (x1 : Nat) (x2 : Nat) (x3 : Int32) (x4 : Int32) (x5 : Option Nat) (x6 : Int32) (S : cS) (h : k_X7_scannedCount_25 post dp R5 R25 x0 x1 x2 x3 x4 x5 x6 S) : cG p l e (cRm 6 0 0 131) s m args below meth c A D Y 7 (MQ below (cQi post D Y A) args s 0 0 A) 0 0 25 [(0, .ref x0), (1, .ref x1), (2, .ref x2), (3, .int x3), (4, .int x4), (5, va_rf x5), (6, .int x6)] [] S := by
  unfold k_X7_scannedCount_25 at h
  obtain ho | ⟨b4, ho⟩ := c_opt x5
  · replace h := h.1 ho
    subst ho
    refine cg_lv (lv' := [(0, .ref x0), (1, .ref x1), (2, .ref x2), (3, .int x3), (4, .int x4), (5, .null), (6, .int x6)]) rfl ?_
    refine cg_st (st' := []) rfl ?_
    refine cg_aloadN C 5 rfl dX7_scannedCount_25 ?_
    refine cg_ifnullN C 98 (by decide) dX7_scannedCount_27 ?_
    exact cg_sub [0, 1, 2, 3, 4] rfl (tb_X7_scannedCount_98 C  hR5 x0 x1 x2 x3 x4 S h)
  · replace h := h.2 b4 ho
    subst ho
    refine cg_lv (lv' := [(0, .ref x0), (1, .ref x1), (2, .ref x2), (3, .int x3), (4, .int x4), (5, .ref b4), (6, .int x6)]) rfl ?_
    refine cg_st (st' := []) rfl ?_
    refine cg_aload C 5 rfl dX7_scannedCount_25 ?_
    refine cg_ifnull C dX7_scannedCount_27 ?_
    refine cg_iload C 6 rfl dX7_scannedCount_30 ?_
    refine cg_aload C 5 rfl dX7_scannedCount_32 ?_
    obtain ⟨hc_34, h⟩ := h
    obtain ⟨b6, hb_b6, h⟩ := h
    refine cg_get C (k := 2) (j := 0) (.ref b6) hc_34.1 hc_34.2 (by decide) rfl (by decide) rfl (show cV _ 2 0 b4 = _ from congrArg va_rf hb_b6) cWs_wsX20 cl_X7_82 rfl dX7_scannedCount_34 ?_
    obtain ⟨hc_37, h⟩ := h
    refine cg_calli C (t_X8_size l b6 S dp h) cc_X7_128 hc_37.1 hc_37.2 (by decide) rfl rfl ⟨by decide, by decide⟩ ⟨by decide, by decide⟩ rfl (Nat.le_of_ble_eq_true rfl) dX7_scannedCount_37 (fun r_7 S_7 h => ?_)
    refine cg_icmp_ge C 98 (by decide) dX7_scannedCount_40 (fun c_ => ?_) (fun c_ => ?_)
    · have h := h.1 c_
      exact cg_sub [0, 1, 2, 3, 4] rfl (tb_X7_scannedCount_98 C  hR5 x0 x1 x2 x3 x4 S_7 h)
    · have h := h.2 c_
      refine cg_aload C 5 rfl dX7_scannedCount_43 ?_
      refine cg_iload C 6 rfl dX7_scannedCount_45 ?_
      obtain ⟨hc_47, h⟩ := h
      refine cg_calli C (t_X2_isLive l b4 x6 S_7 dp h) cc_X7_149 hc_47.1 hc_47.2 (by decide) rfl rfl ⟨by decide, by decide⟩ ⟨by decide, by decide⟩ rfl (Nat.le_of_ble_eq_true rfl) dX7_scannedCount_47 (fun r_8 S_8 h => ?_)
      refine cg_if_eq C 92 (by decide) dX7_scannedCount_50 (fun c_ => ?_) (fun c_ => ?_)
      · have h := h.1 c_
        exact cg_sub [0, 1, 2, 3, 4, 5, 6] rfl (tb_X7_scannedCount_92 C  hR5 hR25 x0 x1 x2 x3 x4 b4 x6 S_8 h)
      · have h := h.2 c_
        refine cg_aload_n C (i := 0) rfl 0 rfl dX7_scannedCount_53 ?_
        refine cg_aload_n C (i := 2) rfl 2 rfl dX7_scannedCount_54 ?_
        refine cg_aload C 5 rfl dX7_scannedCount_55 ?_
        obtain ⟨hc_57, h⟩ := h
        obtain ⟨b10, hb_b10, h⟩ := h
        refine cg_get C (k := 2) (j := 0) (.ref b10) hc_57.1 hc_57.2 (by decide) rfl (by decide) rfl (show cV _ 2 0 b4 = _ from congrArg va_rf hb_b10) cWs_wsX20 cl_X7_82 rfl dX7_scannedCount_57 ?_
        obtain ⟨hc_60, h⟩ := h
        obtain ⟨b11, hb_b11, h⟩ := h
        refine cg_get C (k := 8) (j := 1) (.ref b11) hc_60.1 hc_60.2 (by decide) rfl (by decide) rfl (show cV _ 8 1 b10 = _ from congrArg va_rf hb_b11) cWs_wsX80 cl_X7_157 rfl dX7_scannedCount_60 ?_
        refine cg_iload C 6 rfl dX7_scannedCount_63 ?_
        obtain ⟨hc_65, h⟩ := h
        refine cg_callr C (t_Jx4a65c_get_915e3 l b11 x6 S_8 dp h) cc_X7_52 hc_65.1 hc_65.2 (by decide) rfl rfl ⟨by decide, by decide⟩ ⟨by decide, by decide⟩ rfl (Nat.le_of_ble_eq_true rfl) dX7_scannedCount_65 (fun r_12 S_12 h => ?_)
        obtain ⟨hc_68, h⟩ := h
        refine cg_ccast C (k := 0) hc_68.1 hc_68.2 (by decide) rfl cnc_X7_160 dX7_scannedCount_68 ?_
        obtain ⟨hc_71, h⟩ := h
        refine cg_callv C (t_X7_scanDocument l x0 x2 r_12 S_12 dp h) cc_X7_196 hc_71.1 hc_71.2 (by decide) rfl rfl ⟨by decide, by decide⟩ ⟨by decide, by decide⟩ rfl (Nat.le_of_ble_eq_true rfl) dX7_scannedCount_71 (fun S_13 h => ?_)
        refine cg_iload_n C (i := 3) rfl 3 rfl dX7_scannedCount_74 ?_
        refine cg_aload_n C (i := 0) rfl 0 rfl dX7_scannedCount_75 ?_
        refine cg_aload_n C (i := 2) rfl 2 rfl dX7_scannedCount_76 ?_
        refine cg_iconst C (x := nI 0) rfl dX7_scannedCount_77 ?_
        obtain ⟨hc_78, h⟩ := h
        refine cg_calli C (t_X7_valueAt l x0 x2 ((nI 0)) S_13 dp h) cc_X7_153 hc_78.1 hc_78.2 (by decide) rfl rfl ⟨by decide, by decide⟩ ⟨by decide, by decide⟩ rfl (Nat.le_of_ble_eq_true rfl) dX7_scannedCount_78 (fun r_14 S_14 h => ?_)
        refine cg_iconst C (x := (-1)) rfl dX7_scannedCount_81 ?_
        refine cg_icmp_ne C 89 (by decide) dX7_scannedCount_82 (fun c_ => ?_) (fun c_ => ?_)
        · have h := h.1 c_
          refine cg_iconst C (x := nI 1) rfl dX7_scannedCount_89 ?_
          exact cg_sub [0, 1, 2, 4, 5, 6] rfl (tb_X7_scannedCount_90 C  hR5 hR25 x0 x1 x2 x4 b4 x6 ((nI 1)) x3 S_14 h)
        · have h := h.2 c_
          refine cg_iconst C (x := nI 0) rfl dX7_scannedCount_85 ?_
          refine cg_goto C 90 (by decide) dX7_scannedCount_86 ?_
          exact cg_sub [0, 1, 2, 4, 5, 6] rfl (tb_X7_scannedCount_90 C  hR5 hR25 x0 x1 x2 x4 b4 x6 ((nI 0)) x3 S_14 h)
set_option maxRecDepth 20000 in
theorem tl_X7_scannedCount_25 (C : cC p s m args meth c cX7_scannedCount 7 (some .int) A D Y tp dp RX7) {post : Int32 → cS → Prop} {R5 : Nat → Nat → Nat → Int32 → Int32 → cS → Prop} (hR5 : ∀ (x0 : Nat) (x1 : Nat) (x2 : Nat) (x3 : Int32) (x4 : Int32) (S : cS), R5 x0 x1 x2 x3 x4 S → cG p l e (cRm 6 0 0 131) s m args below meth c A D Y 7 (MQ below (cQi post D Y A) args s 0 0 A) 0 0 5 [(0, .ref x0), (1, .ref x1), (2, .ref x2), (3, .int x3), (4, .int x4)] [] S) (x0 : Nat) (x1 : Nat) (x2 : Nat) (x3 : Int32) (x4 : Int32) (x5 : Option Nat) (x6 : Int32) (S : cS) (h : k_X7_scannedCount_25L post dp R5 x0 x1 x2 x3 x4 x5 x6 S) : cG p l e (cRm 6 0 0 131) s m args below meth c A D Y 7 (MQ below (cQi post D Y A) args s 0 0 A) 0 0 25 [(0, .ref x0), (1, .ref x1), (2, .ref x2), (3, .int x3), (4, .int x4), (5, va_rf x5), (6, .int x6)] [] S :=
  h (fun y => cG p l e (cRm 6 0 0 131) s m args below meth c A D Y 7 (MQ below (cQi post D Y A) args s 0 0 A) 0 0 25 [(0, .ref (y.1)), (1, .ref (y.2.1)), (2, .ref (y.2.2.1)), (3, .int (y.2.2.2.1)), (4, .int (y.2.2.2.2.1)), (5, va_rf (y.2.2.2.2.2.1)), (6, .int (y.2.2.2.2.2.2.1))] [] (y.2.2.2.2.2.2.2)) (fun y hy => tb_X7_scannedCount_25 C  hR5 (fun b0 b1 b2 b3 b4 b5 b6 S z => z) (y.1) (y.2.1) (y.2.2.1) (y.2.2.2.1) (y.2.2.2.2.1) (y.2.2.2.2.2.1) (y.2.2.2.2.2.2.1) (y.2.2.2.2.2.2.2) hy)
set_option maxRecDepth 20000 in
theorem tb_X7_scannedCount_5 (C : cC p s m args meth c cX7_scannedCount 7 (some .int) A D Y tp dp RX7) {post : Int32 → cS → Prop} {R5 : Nat → Nat → Nat → Int32 → Int32 → cS → Prop} (hR5 : ∀ (x0 : Nat) (x1 : Nat) (x2 : Nat) (x3 : Int32) (x4 : Int32) (S : cS), R5 x0 x1 x2 x3 x4 S → cG p l e (cRm 6 0 0 131) s m args below meth c A D Y 7 (MQ below (cQi post D Y A) args s 0 0 A) 0 0 5 [(0, .ref x0), (1, .ref x1), (2, .ref x2), (3, .int x3), (4, .int x4)] [] S) (x0 : Nat) (x1 : Nat) (x2 : Nat) (x3 : Int32) (x4 : Int32) (S : cS) (h : k_X7_scannedCount_5 post dp R5 x0 x1 x2 x3 x4 S) : cG p l e (cRm 6 0 0 131) s m args below meth c A D Y 7 (MQ below (cQi post D Y A) args s 0 0 A) 0 0 5 [(0, .ref x0), (1, .ref x1), (2, .ref x2), (3, .int x3), (4, .int x4)] [] S := by
  unfold k_X7_scannedCount_5 at h
  refine cg_iload C 4 rfl dX7_scannedCount_5 ?_
  refine cg_aload_n C (i := 1) rfl 1 rfl dX7_scannedCount_7 ?_
  obtain ⟨hc_8, h⟩ := h
  refine cg_calli C (t_X10_size l x1 S dp h) cc_X7_77 hc_8.1 hc_8.2 (by decide) rfl rfl ⟨by decide, by decide⟩ ⟨by decide, by decide⟩ rfl (Nat.le_of_ble_eq_true rfl) dX7_scannedCount_8 (fun r_1 S_1 h => ?_)
  refine cg_icmp_ge C 104 (by decide) dX7_scannedCount_11 (fun c_ => ?_) (fun c_ => ?_)
  · have h := h.1 c_
    refine cg_iload_n C (i := 3) rfl 3 rfl dX7_scannedCount_104 ?_
    exact cg_iret C h dX7_scannedCount_105 (by decide) (by decide)
  · have h := h.2 c_
    refine cg_aload_n C (i := 1) rfl 1 rfl dX7_scannedCount_14 ?_
    refine cg_iload C 4 rfl dX7_scannedCount_15 ?_
    obtain ⟨hc_17, h⟩ := h
    refine cg_callq C (t_X10_at l x1 x4 S_1 dp h) cc_X7_78 hc_17.1 hc_17.2 (by decide) rfl rfl ⟨by decide, by decide⟩ ⟨by decide, by decide⟩ rfl (Nat.le_of_ble_eq_true rfl) dX7_scannedCount_17 (fun r_2 S_2 h => ?_)
    obtain ho | ⟨b3, ho⟩ := c_opt r_2
    · replace h := h.1 ho
      subst ho
      refine cg_cast (.null) rfl ?_
      refine cg_astoreN (lv' := [(5, .null), (0, .ref x0), (1, .ref x1), (2, .ref x2), (3, .int x3), (4, .int x4)]) C (Nat.le_of_ble_eq_true rfl) rfl dX7_scannedCount_20 ?_
      refine cg_iconst C (x := nI 0) rfl dX7_scannedCount_22 ?_
      refine cg_istore C (lv' := [(6, .int ((nI 0))), (5, .null), (0, .ref x0), (1, .ref x1), (2, .ref x2), (3, .int x3), (4, .int x4)]) (Nat.le_of_ble_eq_true rfl) rfl dX7_scannedCount_23 ?_
      exact cg_sub [2, 3, 4, 5, 6, 1, 0] rfl (tl_X7_scannedCount_25 C  hR5 x0 x1 x2 x3 x4 none (((nI 0))) S_2 h)
    · replace h := h.2 b3 ho
      subst ho
      refine cg_cast (.ref b3) rfl ?_
      refine cg_astore (lv' := [(5, .ref b3), (0, .ref x0), (1, .ref x1), (2, .ref x2), (3, .int x3), (4, .int x4)]) C (Nat.le_of_ble_eq_true rfl) rfl dX7_scannedCount_20 ?_
      refine cg_iconst C (x := nI 0) rfl dX7_scannedCount_22 ?_
      refine cg_istore C (lv' := [(6, .int ((nI 0))), (5, .ref b3), (0, .ref x0), (1, .ref x1), (2, .ref x2), (3, .int x3), (4, .int x4)]) (Nat.le_of_ble_eq_true rfl) rfl dX7_scannedCount_23 ?_
      exact cg_sub [2, 3, 4, 5, 6, 1, 0] rfl (tl_X7_scannedCount_25 C  hR5 x0 x1 x2 x3 x4 (some b3) (((nI 0))) S_2 h)
set_option maxRecDepth 20000 in
theorem tl_X7_scannedCount_5 (C : cC p s m args meth c cX7_scannedCount 7 (some .int) A D Y tp dp RX7) {post : Int32 → cS → Prop}   (x0 : Nat) (x1 : Nat) (x2 : Nat) (x3 : Int32) (x4 : Int32) (S : cS) (h : k_X7_scannedCount_5L post dp  x0 x1 x2 x3 x4 S) : cG p l e (cRm 6 0 0 131) s m args below meth c A D Y 7 (MQ below (cQi post D Y A) args s 0 0 A) 0 0 5 [(0, .ref x0), (1, .ref x1), (2, .ref x2), (3, .int x3), (4, .int x4)] [] S :=
  h (fun y => cG p l e (cRm 6 0 0 131) s m args below meth c A D Y 7 (MQ below (cQi post D Y A) args s 0 0 A) 0 0 5 [(0, .ref (y.1)), (1, .ref (y.2.1)), (2, .ref (y.2.2.1)), (3, .int (y.2.2.2.1)), (4, .int (y.2.2.2.2.1))] [] (y.2.2.2.2.2)) (fun y hy => tb_X7_scannedCount_5 C   (fun b0 b1 b2 b3 b4 S z => z) (y.1) (y.2.1) (y.2.2.1) (y.2.2.2.1) (y.2.2.2.2.1) (y.2.2.2.2.2) hy)
end S_X7_scannedCount
set_option maxHeartbeats 1000000 in
set_option maxRecDepth 20000 in
theorem t_X7_scannedCount (l : Launch) (x0 : Nat) (x1 : Nat) (x2 : Nat) (S : cS) (dp : Nat) {P : Int32 → cS → Prop} (h : k_X7_scannedCount P dp x0 x1 x2 S) : cMet (cQi P) l yX7_scannedCount cX7_scannedCount 7 (some .int) 6 0 0 131 [.ref x0, .ref x1, .ref x2] S dp := by
  intro D Y tp sz
  refine cg_body (by decide +kernel) (Nat.le_of_ble_eq_true rfl) ?_
  intro p e s m args below meth c C
  generalize va_A (cWd Y S) sz = A at C ⊢
  have C : cC p s m args meth c cX7_scannedCount 7 (some .int) A D Y tp dp RX7 := C
  refine cg_lv (lv' := [(0, .ref x0), (1, .ref x1), (2, .ref x2)]) rfl ?_
  unfold k_X7_scannedCount at h
  refine cg_iconst C (x := nI 0) rfl dX7_scannedCount_0 ?_
  refine cg_istore_n C (i := 3) (lv' := [(3, .int ((nI 0))), (0, .ref x0), (1, .ref x1), (2, .ref x2)]) rfl (Nat.le_of_ble_eq_true rfl) rfl dX7_scannedCount_1 ?_
  refine cg_iconst C (x := nI 0) rfl dX7_scannedCount_2 ?_
  refine cg_istore C (lv' := [(4, .int ((nI 0))), (3, .int ((nI 0))), (0, .ref x0), (1, .ref x1), (2, .ref x2)]) (Nat.le_of_ble_eq_true rfl) rfl dX7_scannedCount_3 ?_
  exact cg_sub [2, 3, 4, 1, 0] rfl (tl_X7_scannedCount_5 C   x0 x1 x2 (((nI 0))) (((nI 0))) S h)
def k_X8_init (Q : cS → Prop) (dp : Nat) (mc ms : Nat) (x0 : Nat) (x1 : Int32) (S : cS) : Prop :=
(0 + 1 ≤ mc ∧ 0 + 3 ≤ ms) ∧ (∀ q1 : Nat, q1 ∉ cL S → ∀ S2 : cS, S2 = cNew S q1 12 → (0 + 1 ≤ mc ∧ 0 + 3 ≤ ms) ∧ (k_Jx4a65c_init_da8c8 (fun S_3 => 
cA S_3 x0 8 ∧ (∀ S4 : cS, S4 = cSr S_3 257 x0 ((some q1)) → (0 + 1 + 1 ≤ mc ∧ 0 + 3 + 3 ≤ ms) ∧ (∀ q5 : Nat, q5 ∉ cL S4 → ∀ S6 : cS, S6 = cNew S4 q5 12 → (0 + 1 + 1 ≤ mc ∧ 0 + 3 + 3 ≤ ms) ∧ (k_Jx4a65c_init_da8c8 (fun S_7 => 
cA S_7 x0 8 ∧ (∀ S8 : cS, S8 = cSr S_7 258 x0 ((some q5)) → (0 + 1 + 1 + 1 ≤ mc ∧ 0 + 3 + 3 + 3 ≤ ms) ∧ (∀ q9 : Nat, q9 ∉ cL S8 → ∀ S10 : cS, S10 = cNew S8 q9 12 → (0 + 1 + 1 + 1 ≤ mc ∧ 0 + 3 + 3 + 3 ≤ ms) ∧ (k_Jx4a65c_init_da8c8 (fun S_11 => 
cA S_11 x0 8 ∧ (∀ S12 : cS, S12 = cSr S_11 259 x0 ((some q9)) → cA S12 x0 8 ∧ (∀ S13 : cS, S13 = cSi S12 256 x0 x1 → (0 + 1 + 1 + 1 ≤ mc ∧ 0 + 3 + 3 + 3 ≤ ms) ∧ (Q S13)))) dp q9 S10)))) dp q5 S6)))) dp q1 S2))
set_option maxHeartbeats 1000000 in
set_option maxRecDepth 20000 in
theorem t_X8_init (l : Launch) (mc ms : Nat) (x0 : Nat) (x1 : Int32) (S : cS) (dp : Nat) {P : cS → Prop} (h : k_X8_init P dp mc ms x0 x1 S) : cMet (cQv P) l yX8_init cX8_init 2 none 4 mc ms 92 [.ref x0, .int x1] S dp := by
  intro D Y tp sz
  refine cg_bodyI (by decide +kernel) (Nat.le_of_ble_eq_true rfl) ?_
  intro p e s m args below meth c C hin
  generalize va_A (cWd Y S) sz = A at C ⊢
  have C : cC p s m args meth c cX8_init 2 none A D Y tp dp RX8 := C
  refine cg_lv (lv' := [(0, .ref x0), (1, .int x1)]) rfl ?_
  unfold k_X8_init at h
  refine cg_aload_n C (i := 0) rfl 0 rfl dX8_init_0 ?_
  refine cg_objInit C co_X8_1 co_i co_c (by decide) (Nat.le_of_ble_eq_true rfl) dX8_init_1 ?_
  refine cg_aload_n C (i := 0) rfl 0 rfl dX8_init_4 ?_
  obtain ⟨hc_5, h⟩ := h
  refine cg_new C (k := 12) (N := 3) (fs := [.int 0, .null, .int 0]) (by decide) rfl cWs_wsJx4a65c0 tyJx4a65c_ok cn_X8_7 ci_Jx4a65c ct_Jx4a65c (fun j_ hj_ => by rcases (show j_ = 0 ∨ j_ = 1 ∨ j_ = 2 by omega) with rfl | rfl | rfl <;> rfl) rfl hc_5.1 hc_5.2 dX8_init_5 (fun q1 hf_q1 => ?_)
  have h := h q1 hf_q1
  refine cg_nm (fun S2 e_S2 => ?_)
  have h := h S2 e_S2
  refine cg_dup C rfl dX8_init_8 ?_
  obtain ⟨hb_9, h⟩ := h
  refine cg_callI C (t_Jx4a65c_init_da8c8 l q1 S2 dp h) cz_X8_9 rfl ⟨by decide, by decide⟩ hb_9 rfl (Nat.le_of_ble_eq_true rfl) dX8_init_9 (fun S_3 h => ?_)
  simp only [Nat.add_zero]
  obtain ⟨hc_12, h⟩ := h
  refine cg_putrF C (k := 8) (j := 1) (x := (some q1)) (ty := tyX8) (fty := tyX8 1) hc_12.1 hc_12.2 (by decide) rfl (by decide) rfl (by decide) rfl cWs_wsX80 tyX8_ok nmX8 cl_X8_10 rfl rfl hin rfl rfl rfl rfl dX8_init_12 ?_
  refine cg_nm (fun S4 e_S4 => ?_)
  have h := h S4 e_S4
  refine cg_aload_n C (i := 0) rfl 0 rfl dX8_init_15 ?_
  obtain ⟨hc_16, h⟩ := h
  refine cg_new C (k := 12) (N := 3) (fs := [.int 0, .null, .int 0]) (by decide) rfl cWs_wsJx4a65c0 tyJx4a65c_ok cn_X8_7 ci_Jx4a65c ct_Jx4a65c (fun j_ hj_ => by rcases (show j_ = 0 ∨ j_ = 1 ∨ j_ = 2 by omega) with rfl | rfl | rfl <;> rfl) rfl hc_16.1 hc_16.2 dX8_init_16 (fun q5 hf_q5 => ?_)
  have h := h q5 hf_q5
  refine cg_nm (fun S6 e_S6 => ?_)
  have h := h S6 e_S6
  refine cg_dup C rfl dX8_init_19 ?_
  obtain ⟨hb_20, h⟩ := h
  refine cg_callI C (t_Jx4a65c_init_da8c8 l q5 S6 dp h) cz_X8_9 rfl ⟨by decide, by decide⟩ hb_20 rfl (Nat.le_of_ble_eq_true rfl) dX8_init_20 (fun S_7 h => ?_)
  simp only [Nat.add_zero]
  obtain ⟨hc_23, h⟩ := h
  refine cg_putrF C (k := 8) (j := 2) (x := (some q5)) (ty := tyX8) (fty := tyX8 2) hc_23.1 hc_23.2 (by decide) rfl (by decide) rfl (by decide) rfl cWs_wsX80 tyX8_ok nmX8 cl_X8_16 rfl rfl hin rfl rfl rfl rfl dX8_init_23 ?_
  refine cg_nm (fun S8 e_S8 => ?_)
  have h := h S8 e_S8
  refine cg_aload_n C (i := 0) rfl 0 rfl dX8_init_26 ?_
  obtain ⟨hc_27, h⟩ := h
  refine cg_new C (k := 12) (N := 3) (fs := [.int 0, .null, .int 0]) (by decide) rfl cWs_wsJx4a65c0 tyJx4a65c_ok cn_X8_7 ci_Jx4a65c ct_Jx4a65c (fun j_ hj_ => by rcases (show j_ = 0 ∨ j_ = 1 ∨ j_ = 2 by omega) with rfl | rfl | rfl <;> rfl) rfl hc_27.1 hc_27.2 dX8_init_27 (fun q9 hf_q9 => ?_)
  have h := h q9 hf_q9
  refine cg_nm (fun S10 e_S10 => ?_)
  have h := h S10 e_S10
  refine cg_dup C rfl dX8_init_30 ?_
  obtain ⟨hb_31, h⟩ := h
  refine cg_callI C (t_Jx4a65c_init_da8c8 l q9 S10 dp h) cz_X8_9 rfl ⟨by decide, by decide⟩ hb_31 rfl (Nat.le_of_ble_eq_true rfl) dX8_init_31 (fun S_11 h => ?_)
  simp only [Nat.add_zero]
  obtain ⟨hc_34, h⟩ := h
  refine cg_putrF C (k := 8) (j := 3) (x := (some q9)) (ty := tyX8) (fty := tyX8 3) hc_34.1 hc_34.2 (by decide) rfl (by decide) rfl (by decide) rfl cWs_wsX80 tyX8_ok nmX8 cl_X8_19 rfl rfl hin rfl rfl rfl rfl dX8_init_34 ?_
  refine cg_nm (fun S12 e_S12 => ?_)
  have h := h S12 e_S12
  refine cg_aload_n C (i := 0) rfl 0 rfl dX8_init_37 ?_
  refine cg_iload_n C (i := 1) rfl 1 rfl dX8_init_38 ?_
  obtain ⟨hc_39, h⟩ := h
  refine cg_putiF C (k := 8) (j := 0) (ty := tyX8) (fty := .int) hc_39.1 hc_39.2 (by decide) rfl (by decide) rfl (by decide) rfl cWs_wsX80 tyX8_ok nmX8 cl_X8_22 rfl rfl hin rfl rfl rfl rfl dX8_init_39 ?_
  refine cg_nm (fun S13 e_S13 => ?_)
  have h := h S13 e_S13
  obtain ⟨hb_42, h⟩ := h
  exact cg_vret C h dX8_init_42 hb_42.1 hb_42.2
def k_X8_tier_7 (Q : Int32 → cS → Prop) (dp : Nat) (R7 : Int32 → Int32 → cS → Prop) (x1 : Int32) (x2 : Int32) (S : cS) : Prop :=
((x2 < ((nI 3)) →
  Q x1 S) ∧
 (¬ x2 < ((nI 3)) →
  ∀ x1_2 : Int32, x1_2 = x1 + nI 1 → ∀ x2_3 : Int32, x2_3 = (x2 / ((nI 3))) → R7 x1_2 x2_3 S))
def k_X8_tier_7L (Q : Int32 → cS → Prop) (dp : Nat)  (x1 : Int32) (x2 : Int32) (S : cS) : Prop :=
  lfp (X := Int32 × Int32 × cS) (fun P y => k_X8_tier_7 Q dp  (fun b0 b1 S => P (b0, b1, S)) y.1 y.2.1 y.2.2) (x1, x2, S)
def k_X8_tier (Q : Int32 → cS → Prop) (dp : Nat) (x0 : Nat) (S : cS) : Prop :=
cA S x0 8 ∧ (k_X8_size (fun r_1 S_1 => 
k_X8_tier_7L Q dp  (((nI 0))) r_1 S_1) dp x0 S)
section S_X8_tier
variable {p : Program} {l : Launch} {e : Env} {s : State} {m : MethodId} {args : Array Value} {below : List Frame} {meth : Method} {c : Code} {A : Nat → Prop} {D : va_G} {Y : cY} {tp dp : Nat}
set_option maxRecDepth 20000 in
theorem tb_X8_tier_7 (C : cC p s m args meth c cX8_tier 3 (some .int) A D Y tp dp RX8) {post : Int32 → cS → Prop} {R7 : Int32 → Int32 → cS → Prop} (hR7 : ∀ (x1 : Int32) (x2 : Int32) (S : cS), R7 x1 x2 S → cG p l e (cRm 2 0 0 40) s m args below meth c A D Y 3 (MQ below (cQi post D Y A) args s 0 0 A) 0 0 7 [(1, .int x1), (2, .int x2)] [] S) (x1 : Int32) (x2 : Int32) (S : cS) (h : k_X8_tier_7 post dp R7 x1 x2 S) : cG p l e (cRm 2 0 0 40) s m args below meth c A D Y 3 (MQ below (cQi post D Y A) args s 0 0 A) 0 0 7 [(1, .int x1), (2, .int x2)] [] S := by
  unfold k_X8_tier_7 at h
  refine cg_iload_n C (i := 2) rfl 1 rfl dX8_tier_7 ?_
  refine cg_iconst C (x := nI 3) rfl dX8_tier_8 ?_
  refine cg_icmp_lt C 22 (by decide) dX8_tier_9 (fun c_ => ?_) (fun c_ => ?_)
  · have h := h.1 c_
    refine cg_iload_n C (i := 1) rfl 0 rfl dX8_tier_22 ?_
    exact cg_iret C h dX8_tier_23 (by decide) (by decide)
  · have h := h.2 c_
    obtain ⟨x1_2, e_x1_2⟩ : ∃ z : Int32, z = x1 + nI 1 := ⟨_, rfl⟩
    have h := h x1_2 e_x1_2
    refine cg_iinc C (lv' := [(1, .int x1_2), (2, .int x2)]) 0 rfl (by rw [e_x1_2]; rfl) (Nat.le_of_ble_eq_true rfl) rfl dX8_tier_12 ?_
    refine cg_iload_n C (i := 2) rfl 1 rfl dX8_tier_15 ?_
    refine cg_iconst C (x := nI 3) rfl dX8_tier_16 ?_
    refine cg_idiv C (by decide) dX8_tier_17 ?_
    refine cg_nmI (fun x2_3 e_x2_3 => ?_)
    have h := h x2_3 e_x2_3
    refine cg_istore_n C (i := 2) (lv' := [(2, .int x2_3), (1, .int x1_2)]) rfl (Nat.le_of_ble_eq_true rfl) rfl dX8_tier_18 ?_
    refine cg_goto C 7 (by decide) dX8_tier_19 ?_
    exact cg_sub [1, 0] rfl (hR7 x1_2 x2_3 S h)
set_option maxRecDepth 20000 in
theorem tl_X8_tier_7 (C : cC p s m args meth c cX8_tier 3 (some .int) A D Y tp dp RX8) {post : Int32 → cS → Prop}   (x1 : Int32) (x2 : Int32) (S : cS) (h : k_X8_tier_7L post dp  x1 x2 S) : cG p l e (cRm 2 0 0 40) s m args below meth c A D Y 3 (MQ below (cQi post D Y A) args s 0 0 A) 0 0 7 [(1, .int x1), (2, .int x2)] [] S :=
  h (fun y => cG p l e (cRm 2 0 0 40) s m args below meth c A D Y 3 (MQ below (cQi post D Y A) args s 0 0 A) 0 0 7 [(1, .int (y.1)), (2, .int (y.2.1))] [] (y.2.2)) (fun y hy => tb_X8_tier_7 C   (fun b0 b1 S z => z) (y.1) (y.2.1) (y.2.2) hy)
end S_X8_tier
set_option maxHeartbeats 1000000 in
set_option maxRecDepth 20000 in
theorem t_X8_tier (l : Launch) (x0 : Nat) (S : cS) (dp : Nat) {P : Int32 → cS → Prop} (h : k_X8_tier P dp x0 S) : cMet (cQi P) l yX8_tier cX8_tier 3 (some .int) 2 0 0 40 [.ref x0] S dp := by
  intro D Y tp sz
  refine cg_body (by decide +kernel) (Nat.le_of_ble_eq_true rfl) ?_
  intro p e s m args below meth c C
  generalize va_A (cWd Y S) sz = A at C ⊢
  have C : cC p s m args meth c cX8_tier 3 (some .int) A D Y tp dp RX8 := C
  refine cg_lv (lv' := [(0, .ref x0)]) rfl ?_
  unfold k_X8_tier at h
  refine cg_iconst C (x := nI 0) rfl dX8_tier_0 ?_
  refine cg_istore_n C (i := 1) (lv' := [(1, .int ((nI 0))), (0, .ref x0)]) rfl (Nat.le_of_ble_eq_true rfl) rfl dX8_tier_1 ?_
  refine cg_aload_n C (i := 0) rfl 1 rfl dX8_tier_2 ?_
  obtain ⟨hc_3, h⟩ := h
  refine cg_calli C (t_X8_size l x0 S dp h) cc_X8_30 hc_3.1 hc_3.2 (by decide) rfl rfl ⟨by decide, by decide⟩ ⟨by decide, by decide⟩ rfl (Nat.le_of_ble_eq_true rfl) dX8_tier_3 (fun r_1 S_1 h => ?_)
  refine cg_istore_n C (i := 2) (lv' := [(2, .int r_1), (1, .int ((nI 0))), (0, .ref x0)]) rfl (Nat.le_of_ble_eq_true rfl) rfl dX8_tier_6 ?_
  exact cg_sub [1, 0] rfl (tl_X8_tier_7 C   (((nI 0))) r_1 S_1 h)
def k_X9_isFirst (Q : Int32 → cS → Prop) (dp : Nat) (x0 : Nat) (x1 : Int32) (S : cS) : Prop :=
cA S x0 9 ∧ (k_X9_codeAt (fun r_1 S_1 => 
cA S_1 x0 9 ∧ (k_X9_placesOf (fun r_2 S_2 => 
cA S_2 x0 9 ∧ (k_X9_placeAt (fun r_3 S_3 => 
∀ x2_4 : Int32, x2_4 = (r_2 >>> (r_3 &&& 31)) → cA S_3 x0 9 ∧ (k_X9_placeAt (fun r_5 S_5 => 
cA S_5 x0 9 ∧ (k_X9_codeAt (fun r_6 S_6 => 
cA S_6 x0 9 ∧ (k_X9_placesOf (fun r_7 S_7 => 
((¬ ((x2_4 <<< (r_5 &&& 31))) = r_7 →
  Q ((bI false)) S_7) ∧
 (((x2_4 <<< (r_5 &&& 31))) = r_7 →
  Q ((bI true)) S_7))) dp x0 r_6 S_6)) dp x0 x1 S_5)) dp x0 x1 S_3)) dp x0 x1 S_2)) dp x0 r_1 S_1)) dp x0 x1 S)
set_option maxHeartbeats 1000000 in
set_option maxRecDepth 20000 in
theorem t_X9_isFirst (l : Launch) (x0 : Nat) (x1 : Int32) (S : cS) (dp : Nat) {P : Int32 → cS → Prop} (h : k_X9_isFirst P dp x0 x1 S) : cMet (cQi P) l yX9_isFirst cX9_isFirst 3 (some .boolean) 1 0 0 24 [.ref x0, .int x1] S dp := by
  intro D Y tp sz
  refine cg_body (by decide +kernel) (Nat.le_of_ble_eq_true rfl) ?_
  intro p e s m args below meth c C
  generalize va_A (cWd Y S) sz = A at C ⊢
  have C : cC p s m args meth c cX9_isFirst 3 (some .boolean) A D Y tp dp RX9 := C
  refine cg_lv (lv' := [(0, .ref x0), (1, .int x1)]) rfl ?_
  unfold k_X9_isFirst at h
  refine cg_aload_n C (i := 0) rfl 0 rfl dX9_isFirst_0 ?_
  refine cg_aload_n C (i := 0) rfl 0 rfl dX9_isFirst_1 ?_
  refine cg_iload_n C (i := 1) rfl 1 rfl dX9_isFirst_2 ?_
  obtain ⟨hc_3, h⟩ := h
  refine cg_calll C (t_X9_codeAt l x0 x1 S dp h) cc_X9_38 hc_3.1 hc_3.2 (by decide) rfl rfl ⟨by decide, by decide⟩ ⟨by decide, by decide⟩ rfl (Nat.le_of_ble_eq_true rfl) dX9_isFirst_3 (fun r_1 S_1 h => ?_)
  obtain ⟨hc_6, h⟩ := h
  refine cg_calli C (t_X9_placesOf l x0 r_1 S_1 dp h) cc_X9_42 hc_6.1 hc_6.2 (by decide) rfl rfl ⟨by decide, by decide⟩ ⟨by decide, by decide⟩ rfl (Nat.le_of_ble_eq_true rfl) dX9_isFirst_6 (fun r_2 S_2 h => ?_)
  refine cg_aload_n C (i := 0) rfl 0 rfl dX9_isFirst_9 ?_
  refine cg_iload_n C (i := 1) rfl 1 rfl dX9_isFirst_10 ?_
  obtain ⟨hc_11, h⟩ := h
  refine cg_calli C (t_X9_placeAt l x0 x1 S_2 dp h) cc_X9_46 hc_11.1 hc_11.2 (by decide) rfl rfl ⟨by decide, by decide⟩ ⟨by decide, by decide⟩ rfl (Nat.le_of_ble_eq_true rfl) dX9_isFirst_11 (fun r_3 S_3 h => ?_)
  refine cg_ishr C dX9_isFirst_14 ?_
  refine cg_nmI (fun x2_4 e_x2_4 => ?_)
  have h := h x2_4 e_x2_4
  refine cg_istore_n C (i := 2) (lv' := [(2, .int x2_4), (0, .ref x0), (1, .int x1)]) rfl (Nat.le_of_ble_eq_true rfl) rfl dX9_isFirst_15 ?_
  refine cg_iload_n C (i := 2) rfl 0 rfl dX9_isFirst_16 ?_
  refine cg_aload_n C (i := 0) rfl 1 rfl dX9_isFirst_17 ?_
  refine cg_iload_n C (i := 1) rfl 2 rfl dX9_isFirst_18 ?_
  obtain ⟨hc_19, h⟩ := h
  refine cg_calli C (t_X9_placeAt l x0 x1 S_3 dp h) cc_X9_46 hc_19.1 hc_19.2 (by decide) rfl rfl ⟨by decide, by decide⟩ ⟨by decide, by decide⟩ rfl (Nat.le_of_ble_eq_true rfl) dX9_isFirst_19 (fun r_5 S_5 h => ?_)
  refine cg_ishl C dX9_isFirst_22 ?_
  refine cg_aload_n C (i := 0) rfl 1 rfl dX9_isFirst_23 ?_
  refine cg_aload_n C (i := 0) rfl 1 rfl dX9_isFirst_24 ?_
  refine cg_iload_n C (i := 1) rfl 2 rfl dX9_isFirst_25 ?_
  obtain ⟨hc_26, h⟩ := h
  refine cg_calll C (t_X9_codeAt l x0 x1 S_5 dp h) cc_X9_38 hc_26.1 hc_26.2 (by decide) rfl rfl ⟨by decide, by decide⟩ ⟨by decide, by decide⟩ rfl (Nat.le_of_ble_eq_true rfl) dX9_isFirst_26 (fun r_6 S_6 h => ?_)
  obtain ⟨hc_29, h⟩ := h
  refine cg_calli C (t_X9_placesOf l x0 r_6 S_6 dp h) cc_X9_42 hc_29.1 hc_29.2 (by decide) rfl rfl ⟨by decide, by decide⟩ ⟨by decide, by decide⟩ rfl (Nat.le_of_ble_eq_true rfl) dX9_isFirst_29 (fun r_7 S_7 h => ?_)
  refine cg_icmp_ne C 39 (by decide) dX9_isFirst_32 (fun c_ => ?_) (fun c_ => ?_)
  · have h := h.1 c_
    refine cg_iconst C (x := nI 0) rfl dX9_isFirst_39 ?_
    refine cg_cast (.int (bI false)) rfl ?_
    exact cg_zret C (bI_nar _) h dX9_isFirst_40 (by decide) (by decide)
  · have h := h.2 c_
    refine cg_iconst C (x := nI 1) rfl dX9_isFirst_35 ?_
    refine cg_goto C 40 (by decide) dX9_isFirst_36 ?_
    refine cg_cast (.int (bI true)) rfl ?_
    exact cg_zret C (bI_nar _) h dX9_isFirst_40 (by decide) (by decide)
def k_Jx4a65c_rangeCheckForAdd_d00df_12 (Q : cS → Prop) (dp : Nat) (mc ms : Nat)  (x0 : Nat) (x1 : Int32) (cd dd : Nat) (S : cS) : Prop :=
False
def k_Jx4a65c_rangeCheckForAdd_d00df (Q : cS → Prop) (dp : Nat) (mc ms : Nat) (x0 : Nat) (x1 : Int32) (S : cS) : Prop :=
cA S x0 12 ∧ (((((ci S 386 x0)) < x1 →
  k_Jx4a65c_rangeCheckForAdd_d00df_12 Q dp mc ms  x0 x1 0 0 S) ∧
 (¬ ((ci S 386 x0)) < x1 →
  ((0 ≤ x1 →
    (0 ≤ mc ∧ 0 ≤ ms) ∧ (Q S)) ∧
   (¬ 0 ≤ x1 →
    k_Jx4a65c_rangeCheckForAdd_d00df_12 Q dp mc ms  x0 x1 0 0 S)))))
section S_Jx4a65c_rangeCheckForAdd_d00df
variable {p : Program} {l : Launch} {e : Env} {s : State} {m : MethodId} {args : Array Value} {below : List Frame} {meth : Method} {c : Code} {A : Nat → Prop} {D : va_G} {Y : cY} {tp dp : Nat}
set_option maxRecDepth 20000 in
theorem tb_Jx4a65c_rangeCheckForAdd_d00df_12 {mc ms : Nat} (C : cC p s m args meth c cJx4a65c_rangeCheckForAdd_d00df 2 none A D Y tp dp RJx4a65c) {post : cS → Prop}   (x0 : Nat) (x1 : Int32) (cd dd : Nat) (S : cS) (h : k_Jx4a65c_rangeCheckForAdd_d00df_12 post dp mc ms  x0 x1 cd dd S) : cG p l e (cRm 0 mc ms 0) s m args below meth c A D Y 2 (MQ below (cQv post D Y A) args s mc ms A) cd dd 12 [(0, .ref x0), (1, .int x1)] [] S := by
  unfold k_Jx4a65c_rangeCheckForAdd_d00df_12 at h
  exact h.elim
end S_Jx4a65c_rangeCheckForAdd_d00df
set_option maxHeartbeats 1000000 in
set_option maxRecDepth 20000 in
theorem t_Jx4a65c_rangeCheckForAdd_d00df (l : Launch) (mc ms : Nat) (x0 : Nat) (x1 : Int32) (S : cS) (dp : Nat) {P : cS → Prop} (h : k_Jx4a65c_rangeCheckForAdd_d00df P dp mc ms x0 x1 S) : cMet (cQv P) l yJx4a65c_rangeCheckForAdd_d00df cJx4a65c_rangeCheckForAdd_d00df 2 none 0 mc ms 0 [.ref x0, .int x1] S dp := by
  intro D Y tp sz
  refine cg_body (by decide +kernel) (Nat.le_of_ble_eq_true rfl) ?_
  intro p e s m args below meth c C
  generalize va_A (cWd Y S) sz = A at C ⊢
  have C : cC p s m args meth c cJx4a65c_rangeCheckForAdd_d00df 2 none A D Y tp dp RJx4a65c := C
  refine cg_lv (lv' := [(0, .ref x0), (1, .int x1)]) rfl ?_
  unfold k_Jx4a65c_rangeCheckForAdd_d00df at h
  refine cg_iload_n C (i := 1) rfl 1 rfl dJx4a65c_rangeCheckForAdd_d00df_0 ?_
  refine cg_aload_n C (i := 0) rfl 0 rfl dJx4a65c_rangeCheckForAdd_d00df_1 ?_
  obtain ⟨hc_2, h⟩ := h
  refine cg_get C (k := 12) (j := 2) (.int (ci S 386 x0)) hc_2.1 hc_2.2 (by decide) rfl (by decide) rfl rfl cWs_wsJx4a65c0 cl_Jx4a65c_48 rfl dJx4a65c_rangeCheckForAdd_d00df_2 ?_
  refine cg_icmp_gt C 12 (by decide) dJx4a65c_rangeCheckForAdd_d00df_5 (fun c_ => ?_) (fun c_ => ?_)
  · have h := h.1 c_
    exact cg_sub [0, 1] rfl (tb_Jx4a65c_rangeCheckForAdd_d00df_12 C   x0 x1 0 0 S h)
  · have h := h.2 c_
    refine cg_iload_n C (i := 1) rfl 1 rfl dJx4a65c_rangeCheckForAdd_d00df_8 ?_
    refine cg_if_ge C 25 (by decide) dJx4a65c_rangeCheckForAdd_d00df_9 (fun c_ => ?_) (fun c_ => ?_)
    · have h := h.1 c_
      obtain ⟨hb_25, h⟩ := h
      exact cg_vret C h dJx4a65c_rangeCheckForAdd_d00df_25 hb_25.1 hb_25.2
    · have h := h.2 c_
      exact cg_sub [0, 1] rfl (tb_Jx4a65c_rangeCheckForAdd_d00df_12 C   x0 x1 0 0 S h)
def k_Jx4a65c_add_7a177_38 (Q : cS → Prop) (dp : Nat) (mc ms : Nat)  (x0 : Nat) (x1 : Int32) (x2 : Nat) (x3 : Int32) (x4 : Nat) (cd dd : Nat) (S : cS) : Prop :=
((x4 = dp →
  cCp S 17 dp x1 dp ((x1 + ((nI 1)))) ((x3 - x1)) ∧ (∀ S7 : cS, S7 = cCpyO S dp (x1).toNatClampNeg dp ((x1 + ((nI 1)))).toNatClampNeg ((x3 - x1)).toNatClampNeg → False)) ∧
 (¬ x4 = dp →
  cCp S 17 x4 x1 x4 ((x1 + ((nI 1)))) ((x3 - x1)) ∧ (∀ S8 : cS, S8 = cCpyO S x4 (x1).toNatClampNeg x4 ((x1 + ((nI 1)))).toNatClampNeg ((x3 - x1)).toNatClampNeg → cX S8 x4 17 x1 ∧ (cOb S8 x2 ∧ (∀ S9 : cS, S9 = cSO S8 x4 (x1).toNatClampNeg (some x2) → cA S9 x0 12 ∧ (∀ S10 : cS, S10 = cSi S9 386 x0 ((x3 + ((nI 1)))) → (cd ≤ mc ∧ dd ≤ ms) ∧ (Q S10)))))))
def k_Jx4a65c_add_7a177 (Q : cS → Prop) (dp : Nat) (mc ms : Nat) (x0 : Nat) (x1 : Int32) (x2 : Nat) (S : cS) : Prop :=
cA S x0 12 ∧ ((∃ mc1 ms2 : Nat, 0 + mc1 ≤ mc ∧ 0 + ms2 ≤ ms ∧ (k_Jx4a65c_rangeCheckForAdd_d00df (fun S_3 => 
cA S_3 x0 12 ∧ (cA S_3 x0 12 ∧ (∀ S4 : cS, S4 = cSi S_3 384 x0 ((((ci S_3 384 x0)) + ((nI 1)))) → cA S4 x0 12 ∧ (∀ x3_5 : Int32, x3_5 = (ci S4 386 x0) → cA S4 x0 12 ∧ ((∃ b6 : Nat, cr S4 385 x0 = some b6 ∧ (((b6 = dp →
  ((¬ ((ci S4 386 x0)) = ((nI 0)) →
    k_Jx4a65c_add_7a177_38 Q dp mc ms  x0 x1 x2 x3_5 dp (0 + mc1) (0 + ms2) S4) ∧
   (((ci S4 386 x0)) = ((nI 0)) →
    cA S4 x0 12 ∧ ((∃ mc11 ms12 : Nat, 0 + mc1 + mc11 ≤ mc ∧ 0 + ms2 + ms12 ≤ ms ∧ (k_Jx4a65c_grow_d5877 (fun r_13 S_13 => 
    k_Jx4a65c_add_7a177_38 Q dp mc ms  x0 x1 x2 x3_5 r_13 (0 + mc1 + mc11) (0 + ms2 + ms12) S_13) dp mc11 ms12 x0 S4)))))) ∧
 (¬ b6 = dp →
  cA S4 b6 17 ∧ (((¬ ((ci S4 386 x0)) = ((nI (cn S4 b6))) →
    k_Jx4a65c_add_7a177_38 Q dp mc ms  x0 x1 x2 x3_5 b6 (0 + mc1) (0 + ms2) S4) ∧
   (((ci S4 386 x0)) = ((nI (cn S4 b6))) →
    cA S4 x0 12 ∧ ((∃ mc14 ms15 : Nat, 0 + mc1 + mc14 ≤ mc ∧ 0 + ms2 + ms15 ≤ ms ∧ (k_Jx4a65c_grow_d5877 (fun r_16 S_16 => 
    k_Jx4a65c_add_7a177_38 Q dp mc ms  x0 x1 x2 x3_5 r_16 (0 + mc1 + mc14) (0 + ms2 + ms15) S_16) dp mc14 ms15 x0 S4))))))))))))))) dp mc1 ms2 x0 x1 S)))
section S_Jx4a65c_add_7a177
variable {p : Program} {l : Launch} {e : Env} {s : State} {m : MethodId} {args : Array Value} {below : List Frame} {meth : Method} {c : Code} {A : Nat → Prop} {D : va_G} {Y : cY} {tp dp : Nat}
set_option maxRecDepth 20000 in
theorem tb_Jx4a65c_add_7a177_38 {mc ms : Nat} (C : cC p s m args meth c cJx4a65c_add_7a177 5 none A D Y tp dp RJx4a65c) {post : cS → Prop}   (x0 : Nat) (x1 : Int32) (x2 : Nat) (x3 : Int32) (x4 : Nat) (cd dd : Nat) (S : cS) (h : k_Jx4a65c_add_7a177_38 post dp mc ms  x0 x1 x2 x3 x4 cd dd S) : cG p l e (cRm 6 mc ms 144) s m args below meth c A D Y 5 (MQ below (cQv post D Y A) args s mc ms A) cd dd 38 [(0, .ref x0), (1, .int x1), (2, .ref x2), (3, .int x3), (4, .ref x4)] [] S := by
  unfold k_Jx4a65c_add_7a177_38 at h
  by_cases hd : x4 = dp
  · have h := h.1 hd
    refine cg_lv (lv' := [(0, .ref x0), (1, .int x1), (2, .ref x2), (3, .int x3), (4, .ref dp)]) (by rw [hd]) ?_
    refine cg_st (st' := []) (by first | rfl | rw [hd]) ?_
    refine cg_aload C 4 rfl dJx4a65c_add_7a177_38 ?_
    refine cg_iload_n C (i := 1) rfl 1 rfl dJx4a65c_add_7a177_40 ?_
    refine cg_aload C 4 rfl dJx4a65c_add_7a177_41 ?_
    refine cg_iload_n C (i := 1) rfl 1 rfl dJx4a65c_add_7a177_43 ?_
    refine cg_iconst C (x := nI 1) rfl dJx4a65c_add_7a177_44 ?_
    refine cg_iadd C dJx4a65c_add_7a177_45 ?_
    refine cg_iload_n C (i := 3) rfl 3 rfl dJx4a65c_add_7a177_46 ?_
    refine cg_iload_n C (i := 1) rfl 1 rfl dJx4a65c_add_7a177_47 ?_
    refine cg_isub C dJx4a65c_add_7a177_48 ?_
    obtain ⟨hc_49, h⟩ := h
    refine cg_copy17 C hc_49 cac_Jx4a65c_112 (Nat.le_of_ble_eq_true rfl) (Nat.le_of_ble_eq_true rfl) dJx4a65c_add_7a177_49 ?_
    refine cg_nm (fun S7 e_S7 => ?_)
    have h := h S7 e_S7
    refine cg_aload C 4 rfl dJx4a65c_add_7a177_52 ?_
    refine cg_iload_n C (i := 1) rfl 1 rfl dJx4a65c_add_7a177_54 ?_
    refine cg_aload_n C (i := 2) rfl 2 rfl dJx4a65c_add_7a177_55 ?_
    exact h.elim
  · have h := h.2 hd
    refine cg_aload C 4 rfl dJx4a65c_add_7a177_38 ?_
    refine cg_iload_n C (i := 1) rfl 1 rfl dJx4a65c_add_7a177_40 ?_
    refine cg_aload C 4 rfl dJx4a65c_add_7a177_41 ?_
    refine cg_iload_n C (i := 1) rfl 1 rfl dJx4a65c_add_7a177_43 ?_
    refine cg_iconst C (x := nI 1) rfl dJx4a65c_add_7a177_44 ?_
    refine cg_iadd C dJx4a65c_add_7a177_45 ?_
    refine cg_iload_n C (i := 3) rfl 3 rfl dJx4a65c_add_7a177_46 ?_
    refine cg_iload_n C (i := 1) rfl 1 rfl dJx4a65c_add_7a177_47 ?_
    refine cg_isub C dJx4a65c_add_7a177_48 ?_
    obtain ⟨hc_49, h⟩ := h
    refine cg_copy17 C hc_49 cac_Jx4a65c_112 (Nat.le_of_ble_eq_true rfl) (Nat.le_of_ble_eq_true rfl) dJx4a65c_add_7a177_49 ?_
    refine cg_nm (fun S8 e_S8 => ?_)
    have h := h S8 e_S8
    refine cg_aload C 4 rfl dJx4a65c_add_7a177_52 ?_
    refine cg_iload_n C (i := 1) rfl 1 rfl dJx4a65c_add_7a177_54 ?_
    refine cg_aload_n C (i := 2) rfl 2 rfl dJx4a65c_add_7a177_55 ?_
    obtain ⟨hc_56, h⟩ := h
    obtain ⟨hv_56, h⟩ := h
    refine cg_aastoreR C hc_56 hv_56 dJx4a65c_add_7a177_56 ?_
    refine cg_nm (fun S9 e_S9 => ?_)
    have h := h S9 e_S9
    refine cg_aload_n C (i := 0) rfl 0 rfl dJx4a65c_add_7a177_57 ?_
    refine cg_iload_n C (i := 3) rfl 3 rfl dJx4a65c_add_7a177_58 ?_
    refine cg_iconst C (x := nI 1) rfl dJx4a65c_add_7a177_59 ?_
    refine cg_iadd C dJx4a65c_add_7a177_60 ?_
    obtain ⟨hc_61, h⟩ := h
    refine cg_puti C (k := 12) (j := 2) (ty := tyJx4a65c) (fty := .int) hc_61.1 hc_61.2 (by decide) rfl (by decide) rfl (by decide) rfl cWs_wsJx4a65c0 tyJx4a65c_ok nmJx4a65c cl_Jx4a65c_48 rfl rfl rfl rfl rfl dJx4a65c_add_7a177_61 ?_
    refine cg_nm (fun S10 e_S10 => ?_)
    have h := h S10 e_S10
    obtain ⟨hb_64, h⟩ := h
    exact cg_vret C h dJx4a65c_add_7a177_64 hb_64.1 hb_64.2
end S_Jx4a65c_add_7a177
set_option maxHeartbeats 1000000 in
set_option maxRecDepth 20000 in
theorem t_Jx4a65c_add_7a177 (l : Launch) (mc ms : Nat) (x0 : Nat) (x1 : Int32) (x2 : Nat) (S : cS) (dp : Nat) {P : cS → Prop} (h : k_Jx4a65c_add_7a177 P dp mc ms x0 x1 x2 S) : cMet (cQv P) l yJx4a65c_add_7a177 cJx4a65c_add_7a177 5 none 6 mc ms 144 [.ref x0, .int x1, .ref x2] S dp := by
  intro D Y tp sz
  refine cg_body (by decide +kernel) (Nat.le_of_ble_eq_true rfl) ?_
  intro p e s m args below meth c C
  generalize va_A (cWd Y S) sz = A at C ⊢
  have C : cC p s m args meth c cJx4a65c_add_7a177 5 none A D Y tp dp RJx4a65c := C
  refine cg_lv (lv' := [(0, .ref x0), (1, .int x1), (2, .ref x2)]) rfl ?_
  unfold k_Jx4a65c_add_7a177 at h
  refine cg_aload_n C (i := 0) rfl 0 rfl dJx4a65c_add_7a177_0 ?_
  refine cg_iload_n C (i := 1) rfl 1 rfl dJx4a65c_add_7a177_1 ?_
  obtain ⟨hc_2, h⟩ := h
  obtain ⟨mc1, ms2, hm_1, hm_2, h⟩ := h
  refine cg_callv C (t_Jx4a65c_rangeCheckForAdd_d00df l mc1 ms2 x0 x1 S dp h) cc_Jx4a65c_135 hc_2.1 hc_2.2 (by decide) rfl rfl ⟨by decide, by decide⟩ ⟨hm_1, hm_2⟩ rfl (Nat.le_of_ble_eq_true rfl) dJx4a65c_add_7a177_2 (fun S_3 h => ?_)
  refine cg_aload_n C (i := 0) rfl 0 rfl dJx4a65c_add_7a177_5 ?_
  refine cg_dup C rfl dJx4a65c_add_7a177_6 ?_
  obtain ⟨hc_7, h⟩ := h
  refine cg_getS C (k := 12) (j := 0) (.int (ci S_3 384 x0)) hc_7.1 hc_7.2 (by decide) rfl (by decide) rfl rfl cWs_wsJx4a65c0 cl_mod12 (Or.inr csf_mod) dJx4a65c_add_7a177_7 ?_
  refine cg_iconst C (x := nI 1) rfl dJx4a65c_add_7a177_10 ?_
  refine cg_iadd C dJx4a65c_add_7a177_11 ?_
  obtain ⟨hc_12, h⟩ := h
  refine cg_putiS C (k := 12) (j := 0) (ty := tyJx4a65c) (fty := .int) hc_12.1 hc_12.2 (by decide) rfl (by decide) rfl (by decide) rfl cWs_wsJx4a65c0 tyJx4a65c_ok nmJx4a65c cl_mod12 (Or.inr csf_mod) rfl rfl rfl rfl dJx4a65c_add_7a177_12 ?_
  refine cg_nm (fun S4 e_S4 => ?_)
  have h := h S4 e_S4
  refine cg_aload_n C (i := 0) rfl 0 rfl dJx4a65c_add_7a177_15 ?_
  obtain ⟨hc_16, h⟩ := h
  refine cg_get C (k := 12) (j := 2) (.int (ci S4 386 x0)) hc_16.1 hc_16.2 (by decide) rfl (by decide) rfl rfl cWs_wsJx4a65c0 cl_Jx4a65c_48 rfl dJx4a65c_add_7a177_16 ?_
  refine cg_dup C rfl dJx4a65c_add_7a177_19 ?_
  refine cg_nmI (fun x3_5 e_x3_5 => ?_)
  have h := h x3_5 e_x3_5
  refine cg_istore_n C (i := 3) (lv' := [(3, .int x3_5), (0, .ref x0), (1, .int x1), (2, .ref x2)]) rfl (Nat.le_of_ble_eq_true rfl) rfl dJx4a65c_add_7a177_20 ?_
  refine cg_aload_n C (i := 0) rfl 1 rfl dJx4a65c_add_7a177_21 ?_
  obtain ⟨hc_22, h⟩ := h
  obtain ⟨b6, hb_b6, h⟩ := h
  by_cases hd : b6 = dp
  · have h := h.1 hd
    refine cg_get C (k := 12) (j := 1) (.ref dp) hc_22.1 hc_22.2 (by decide) rfl (by decide) rfl (show cV _ 12 1 x0 = _ from congrArg va_rf (hb_b6.trans (congrArg some hd))) cWs_wsJx4a65c0 cl_Jx4a65c_9 rfl dJx4a65c_add_7a177_22 ?_
    refine cg_dup C rfl dJx4a65c_add_7a177_25 ?_
    refine cg_astore (lv' := [(4, .ref dp), (3, .int x3_5), (0, .ref x0), (1, .int x1), (2, .ref x2)]) C (Nat.le_of_ble_eq_true rfl) rfl dJx4a65c_add_7a177_26 ?_
    refine cg_dlen C dJx4a65c_add_7a177_28 ?_
    refine cg_icmp_ne C 38 (by decide) dJx4a65c_add_7a177_29 (fun c_ => ?_) (fun c_ => ?_)
    · have h := h.1 c_
      exact cg_sub [2, 3, 4, 1, 0] rfl (tb_Jx4a65c_add_7a177_38 C   x0 x1 x2 x3_5 dp (0 + mc1) (0 + ms2) S4 h)
    · have h := h.2 c_
      refine cg_aload_n C (i := 0) rfl 2 rfl dJx4a65c_add_7a177_32 ?_
      obtain ⟨hc_33, h⟩ := h
      obtain ⟨mc11, ms12, hm_1, hm_2, h⟩ := h
      refine cg_callr C (t_Jx4a65c_grow_d5877 l mc11 ms12 x0 S4 dp h) cc_Jx4a65c_129 hc_33.1 hc_33.2 (by decide) rfl rfl ⟨by decide, by decide⟩ ⟨hm_1, hm_2⟩ rfl (Nat.le_of_ble_eq_true rfl) dJx4a65c_add_7a177_33 (fun r_13 S_13 h => ?_)
      refine cg_astore (lv' := [(4, .ref r_13), (3, .int x3_5), (0, .ref x0), (1, .int x1), (2, .ref x2)]) C (Nat.le_of_ble_eq_true rfl) rfl dJx4a65c_add_7a177_36 ?_
      exact cg_sub [2, 3, 4, 1, 0] rfl (tb_Jx4a65c_add_7a177_38 C   x0 x1 x2 x3_5 r_13 (0 + mc1 + mc11) (0 + ms2 + ms12) S_13 h)
  · have h := h.2 hd
    refine cg_get C (k := 12) (j := 1) (.ref b6) hc_22.1 hc_22.2 (by decide) rfl (by decide) rfl (show cV _ 12 1 x0 = _ from congrArg va_rf (hb_b6)) cWs_wsJx4a65c0 cl_Jx4a65c_9 rfl dJx4a65c_add_7a177_22 ?_
    refine cg_dup C rfl dJx4a65c_add_7a177_25 ?_
    refine cg_astore (lv' := [(4, .ref b6), (3, .int x3_5), (0, .ref x0), (1, .int x1), (2, .ref x2)]) C (Nat.le_of_ble_eq_true rfl) rfl dJx4a65c_add_7a177_26 ?_
    obtain ⟨hc_28, h⟩ := h
    refine cg_alen C hc_28.1 hc_28.2 (by decide) (by decide) dJx4a65c_add_7a177_28 ?_
    refine cg_icmp_ne C 38 (by decide) dJx4a65c_add_7a177_29 (fun c_ => ?_) (fun c_ => ?_)
    · have h := h.1 c_
      exact cg_sub [2, 3, 4, 1, 0] rfl (tb_Jx4a65c_add_7a177_38 C   x0 x1 x2 x3_5 b6 (0 + mc1) (0 + ms2) S4 h)
    · have h := h.2 c_
      refine cg_aload_n C (i := 0) rfl 2 rfl dJx4a65c_add_7a177_32 ?_
      obtain ⟨hc_33, h⟩ := h
      obtain ⟨mc14, ms15, hm_1, hm_2, h⟩ := h
      refine cg_callr C (t_Jx4a65c_grow_d5877 l mc14 ms15 x0 S4 dp h) cc_Jx4a65c_129 hc_33.1 hc_33.2 (by decide) rfl rfl ⟨by decide, by decide⟩ ⟨hm_1, hm_2⟩ rfl (Nat.le_of_ble_eq_true rfl) dJx4a65c_add_7a177_33 (fun r_16 S_16 h => ?_)
      refine cg_astore (lv' := [(4, .ref r_16), (3, .int x3_5), (0, .ref x0), (1, .int x1), (2, .ref x2)]) C (Nat.le_of_ble_eq_true rfl) rfl dJx4a65c_add_7a177_36 ?_
      exact cg_sub [2, 3, 4, 1, 0] rfl (tb_Jx4a65c_add_7a177_38 C   x0 x1 x2 x3_5 r_16 (0 + mc1 + mc14) (0 + ms2 + ms15) S_16 h)
def k_X8_ownPostings_39 (Q : Nat → cS → Prop) (dp : Nat) (mc ms : Nat)  (x0 : Nat) (x1 : Int64) (x3 : Int32) (cd dd : Nat) (S : cS) : Prop :=
(cd + 1 ≤ mc ∧ dd + 10 ≤ ms) ∧ (∀ q3 : Nat, q3 ∉ cL S → ∀ S4 : cS, S4 = cNew S q3 5 → (∃ mc5 ms6 : Nat, cd + 1 + mc5 ≤ mc ∧ dd + 10 + ms6 ≤ ms ∧ (k_X5_init (fun S_7 => 
cA S_7 x0 12 ∧ ((∃ mc8 ms9 : Nat, cd + 1 + mc5 + mc8 ≤ mc ∧ dd + 10 + ms6 + ms9 ≤ ms ∧ (k_Jx4a65c_add_7a177 (fun S_10 => 
(cd + 1 + mc5 + mc8 ≤ mc ∧ dd + 10 + ms6 + ms9 ≤ ms) ∧ (Q q3 S_10)) dp mc8 ms9 x0 x3 q3 S_7)))) dp mc5 ms6 q3 x1 S4)))
def k_X8_ownPostings (Q : Nat → cS → Prop) (dp : Nat) (mc ms : Nat) (x0 : Nat) (x1 : Int64) (S : cS) : Prop :=
(0 ≤ mc ∧ 0 ≤ ms) ∧ (k_X8_placeOf (fun r_1 S_1 => 
cA S_1 x0 12 ∧ ((0 ≤ mc ∧ 0 ≤ ms) ∧ (k_Jx4a65c_size_8abf5 (fun r_2 S_2 => 
((r_2 ≤ r_1 →
  k_X8_ownPostings_39 Q dp mc ms  x0 x1 r_1 0 0 S_2) ∧
 (¬ r_2 ≤ r_1 →
  cA S_2 x0 12 ∧ ((0 ≤ mc ∧ 0 ≤ ms) ∧ (k_Jx4a65c_get_915e3 (fun r_11 S_11 => 
  cA S_11 r_11 5 ∧ (cA S_11 r_11 5 ∧ (((¬ (cw S_11 160 r_11) = x1 →
    k_X8_ownPostings_39 Q dp mc ms  x0 x1 r_1 0 0 S_11) ∧
   ((cw S_11 160 r_11) = x1 →
    cA S_11 x0 12 ∧ ((0 ≤ mc ∧ 0 ≤ ms) ∧ (k_Jx4a65c_get_915e3 (fun r_12 S_12 => 
    cA S_12 r_12 5 ∧ ((0 ≤ mc ∧ 0 ≤ ms) ∧ (Q r_12 S_12))) dp x0 r_1 S_11))))))) dp x0 r_1 S_2))))) dp x0 S_1))) dp x0 x1 S)
section S_X8_ownPostings
variable {p : Program} {l : Launch} {e : Env} {s : State} {m : MethodId} {args : Array Value} {below : List Frame} {meth : Method} {c : Code} {A : Nat → Prop} {D : va_G} {Y : cY} {tp dp : Nat}
set_option maxRecDepth 20000 in
theorem tb_X8_ownPostings_39 {mc ms : Nat} (C : cC p s m args meth c cX8_ownPostings 5 (some (.object "SearchMill$Postings")) A D Y tp dp RX8) {post : Nat → cS → Prop}   (x0 : Nat) (x1 : Int64) (x3 : Int32) (cd dd : Nat) (S : cS) (h : k_X8_ownPostings_39 post dp mc ms  x0 x1 x3 cd dd S) : cG p l e (cRm 7 mc ms 168) s m args below meth c A D Y 5 (MQ below (cQr post D Y A) args s mc ms A) cd dd 39 [(0, .ref x0), (1, .long x1), (3, .int x3)] [] S := by
  unfold k_X8_ownPostings_39 at h
  obtain ⟨hc_39, h⟩ := h
  refine cg_new C (k := 5) (N := 10) (fs := [.long 0, .null, .int 0, .int 0, .int 0, .null, .int 0, .int 0, .int 0, .int 0]) (by decide) rfl cWs_wsX50 tyX5_ok cn_X8_67 ci_X5 ct_X5 (fun j_ hj_ => by rcases (show j_ = 0 ∨ j_ = 1 ∨ j_ = 2 ∨ j_ = 3 ∨ j_ = 4 ∨ j_ = 5 ∨ j_ = 6 ∨ j_ = 7 ∨ j_ = 8 ∨ j_ = 9 by omega) with rfl | rfl | rfl | rfl | rfl | rfl | rfl | rfl | rfl | rfl <;> rfl) rfl hc_39.1 hc_39.2 dX8_ownPostings_39 (fun q3 hf_q3 => ?_)
  have h := h q3 hf_q3
  refine cg_nm (fun S4 e_S4 => ?_)
  have h := h S4 e_S4
  refine cg_dup C rfl dX8_ownPostings_42 ?_
  refine cg_lload_n C (i := 1) rfl 1 rfl dX8_ownPostings_43 ?_
  obtain ⟨mc5, ms6, hm_1, hm_2, h⟩ := h
  refine cg_callI C (t_X5_init l mc5 ms6 q3 x1 S4 dp h) cz_X8_83 rfl ⟨by decide, by decide⟩ ⟨hm_1, hm_2⟩ rfl (Nat.le_of_ble_eq_true rfl) dX8_ownPostings_44 (fun S_7 h => ?_)
  refine cg_astore (lv' := [(4, .ref q3), (0, .ref x0), (1, .long x1), (3, .int x3)]) C (Nat.le_of_ble_eq_true rfl) rfl dX8_ownPostings_47 ?_
  refine cg_aload_n C (i := 0) rfl 1 rfl dX8_ownPostings_49 ?_
  refine cg_iload_n C (i := 3) rfl 3 rfl dX8_ownPostings_50 ?_
  refine cg_aload C 0 rfl dX8_ownPostings_51 ?_
  obtain ⟨hc_53, h⟩ := h
  obtain ⟨mc8, ms9, hm_1, hm_2, h⟩ := h
  refine cg_callv C (t_Jx4a65c_add_7a177 l mc8 ms9 x0 x3 q3 S_7 dp h) cc_X8_86 hc_53.1 hc_53.2 (by decide) rfl rfl ⟨by decide, by decide⟩ ⟨hm_1, hm_2⟩ rfl (Nat.le_of_ble_eq_true rfl) dX8_ownPostings_53 (fun S_10 h => ?_)
  refine cg_aload C 0 rfl dX8_ownPostings_56 ?_
  obtain ⟨hb_58, h⟩ := h
  exact cg_aret C rfl (by first | exact Or.inl ⟨_, rfl⟩ | exact Or.inr ⟨_, rfl⟩) h dX8_ownPostings_58 hb_58.1 hb_58.2
end S_X8_ownPostings
set_option maxHeartbeats 1000000 in
set_option maxRecDepth 20000 in
theorem t_X8_ownPostings (l : Launch) (mc ms : Nat) (x0 : Nat) (x1 : Int64) (S : cS) (dp : Nat) {P : Nat → cS → Prop} (h : k_X8_ownPostings P dp mc ms x0 x1 S) : cMet (cQr P) l yX8_ownPostings cX8_ownPostings 5 (some (.object "SearchMill$Postings")) 7 mc ms 168 [.ref x0, .long x1] S dp := by
  intro D Y tp sz
  refine cg_body (by decide +kernel) (Nat.le_of_ble_eq_true rfl) ?_
  intro p e s m args below meth c C
  generalize va_A (cWd Y S) sz = A at C ⊢
  have C : cC p s m args meth c cX8_ownPostings 5 (some (.object "SearchMill$Postings")) A D Y tp dp RX8 := C
  refine cg_lv (lv' := [(0, .ref x0), (1, .long x1)]) rfl ?_
  unfold k_X8_ownPostings at h
  refine cg_aload_n C (i := 0) rfl 0 rfl dX8_ownPostings_0 ?_
  refine cg_lload_n C (i := 1) rfl 1 rfl dX8_ownPostings_1 ?_
  obtain ⟨hb_2, h⟩ := h
  refine cg_callsi C (t_X8_placeOf l x0 x1 S dp h) cc_X8_75 rfl ⟨by decide, by decide⟩ hb_2 rfl (Nat.le_of_ble_eq_true rfl) dX8_ownPostings_2 (fun r_1 S_1 h => ?_)
  simp only [Nat.add_zero]
  refine cg_istore_n C (i := 3) (lv' := [(3, .int r_1), (0, .ref x0), (1, .long x1)]) rfl (Nat.le_of_ble_eq_true rfl) rfl dX8_ownPostings_5 ?_
  refine cg_iload_n C (i := 3) rfl 0 rfl dX8_ownPostings_6 ?_
  refine cg_aload_n C (i := 0) rfl 1 rfl dX8_ownPostings_7 ?_
  obtain ⟨hc_8, h⟩ := h
  obtain ⟨hb_8, h⟩ := h
  refine cg_calli C (t_Jx4a65c_size_8abf5 l x0 S_1 dp h) cc_X8_26 hc_8.1 hc_8.2 (by decide) rfl rfl ⟨by decide, by decide⟩ hb_8 rfl (Nat.le_of_ble_eq_true rfl) dX8_ownPostings_8 (fun r_2 S_2 h => ?_)
  simp only [Nat.add_zero]
  refine cg_icmp_ge C 39 (by decide) dX8_ownPostings_11 (fun c_ => ?_) (fun c_ => ?_)
  · have h := h.1 c_
    exact cg_sub [1, 2, 0] rfl (tb_X8_ownPostings_39 C   x0 x1 r_1 0 0 S_2 h)
  · have h := h.2 c_
    refine cg_aload_n C (i := 0) rfl 1 rfl dX8_ownPostings_14 ?_
    refine cg_iload_n C (i := 3) rfl 0 rfl dX8_ownPostings_15 ?_
    obtain ⟨hc_16, h⟩ := h
    obtain ⟨hb_16, h⟩ := h
    refine cg_callr C (t_Jx4a65c_get_915e3 l x0 r_1 S_2 dp h) cc_X8_35 hc_16.1 hc_16.2 (by decide) rfl rfl ⟨by decide, by decide⟩ hb_16 rfl (Nat.le_of_ble_eq_true rfl) dX8_ownPostings_16 (fun r_11 S_11 h => ?_)
    simp only [Nat.add_zero]
    obtain ⟨hc_19, h⟩ := h
    refine cg_ccast C (k := 5) hc_19.1 hc_19.2 (by decide) rfl cnc_X8_67 dX8_ownPostings_19 ?_
    obtain ⟨hc_22, h⟩ := h
    refine cg_get C (k := 5) (j := 0) (.long (cw S_11 160 r_11)) hc_22.1 hc_22.2 (by decide) rfl (by decide) rfl rfl cWs_wsX50 cl_X8_79 rfl dX8_ownPostings_22 ?_
    refine cg_lload_n C (i := 1) rfl 2 rfl dX8_ownPostings_25 ?_
    refine cg_lcmp C dX8_ownPostings_26 ?_
    refine cg_if_neL C 39 (by decide) dX8_ownPostings_27 (fun c_ => ?_) (fun c_ => ?_)
    · have h := h.1 c_
      exact cg_sub [1, 2, 0] rfl (tb_X8_ownPostings_39 C   x0 x1 r_1 0 0 S_11 h)
    · have h := h.2 c_
      refine cg_aload_n C (i := 0) rfl 1 rfl dX8_ownPostings_30 ?_
      refine cg_iload_n C (i := 3) rfl 0 rfl dX8_ownPostings_31 ?_
      obtain ⟨hc_32, h⟩ := h
      obtain ⟨hb_32, h⟩ := h
      refine cg_callr C (t_Jx4a65c_get_915e3 l x0 r_1 S_11 dp h) cc_X8_35 hc_32.1 hc_32.2 (by decide) rfl rfl ⟨by decide, by decide⟩ hb_32 rfl (Nat.le_of_ble_eq_true rfl) dX8_ownPostings_32 (fun r_12 S_12 h => ?_)
      simp only [Nat.add_zero]
      obtain ⟨hc_35, h⟩ := h
      refine cg_ccast C (k := 5) hc_35.1 hc_35.2 (by decide) rfl cnc_X8_67 dX8_ownPostings_35 ?_
      obtain ⟨hb_38, h⟩ := h
      exact cg_aret C rfl (by first | exact Or.inl ⟨_, rfl⟩ | exact Or.inr ⟨_, rfl⟩) h dX8_ownPostings_38 hb_38.1 hb_38.2
def k_X8_readTexts_99 (Q : cS → Prop) (dp : Nat) (mc ms : Nat) (R99 : Nat → Int32 → Nat → Nat → cS → Prop) (x2 : Nat) (x3 : Int32) (cd dd : Nat) (S : cS) : Prop :=
cA S x2 12 ∧ ((cd ≤ mc ∧ dd ≤ ms) ∧ (k_Jx4a65c_size_8abf5 (fun r_4 S_4 => 
((r_4 ≤ x3 →
  (cd ≤ mc ∧ dd ≤ ms) ∧ (Q S_4)) ∧
 (¬ r_4 ≤ x3 →
  cA S_4 x2 12 ∧ ((cd ≤ mc ∧ dd ≤ ms) ∧ (k_Jx4a65c_get_915e3 (fun r_5 S_5 => 
  cA S_5 r_5 5 ∧ (cA S_5 r_5 5 ∧ ((∃ mc6 ms7 : Nat, cd + mc6 ≤ mc ∧ dd + ms7 ≤ ms ∧ (k_X5_close (fun S_8 => 
  ∀ x3_9 : Int32, x3_9 = x3 + nI 1 → R99 x2 x3_9 (cd + mc6) (dd + ms7) S_8) dp mc6 ms7 r_5 S_5))))) dp x2 x3 S_4))))) dp x2 S))
def k_X8_readTexts_99L (Q : cS → Prop) (dp : Nat) (mc ms : Nat)  (x2 : Nat) (x3 : Int32) (cd dd : Nat) (S : cS) : Prop :=
  lfp (X := Nat × Int32 × Nat × Nat × cS) (fun P y => k_X8_readTexts_99 Q dp mc ms  (fun b0 b1 b2 b3 S => P (b0, b1, b2, b3, S)) y.1 y.2.1 y.2.2.1 y.2.2.2.1 y.2.2.2.2) (x2, x3, cd, dd, S)
def k_X8_readTexts_85 (Q : cS → Prop) (dp : Nat) (mc ms : Nat) (R8 : Nat → Int32 → Nat → Int32 → Nat → Nat → cS → Prop) (R39 : Nat → Int32 → Nat → Int32 → Nat → Int32 → Nat → Nat → cS → Prop) (x0 : Nat) (x1 : Int32) (x2 : Nat) (x3 : Int32) (x4 : Nat) (x5 : Int32) (cd dd : Nat) (S : cS) : Prop :=
∀ x5_15 : Int32, x5_15 = x5 + nI 1 → R39 x0 x1 x2 x3 x4 x5_15 cd dd S
def k_X8_readTexts_39 (Q : cS → Prop) (dp : Nat) (mc ms : Nat) (R8 : Nat → Int32 → Nat → Int32 → Nat → Nat → cS → Prop) (R39 : Nat → Int32 → Nat → Int32 → Nat → Int32 → Nat → Nat → cS → Prop) (x0 : Nat) (x1 : Int32) (x2 : Nat) (x3 : Int32) (x4 : Nat) (x5 : Int32) (cd dd : Nat) (S : cS) : Prop :=
cA S x4 9 ∧ (((((ci S 292 x4)) ≤ x5 →
  ∀ x3_13 : Int32, x3_13 = x3 + nI 1 → R8 x0 x1 x2 x3_13 cd dd S) ∧
 (¬ ((ci S 292 x4)) ≤ x5 →
  cA S x4 9 ∧ ((cd ≤ mc ∧ dd ≤ ms) ∧ (k_X9_isFirst (fun r_14 S_14 => 
  ((r_14 = 0 →
    k_X8_readTexts_85 Q dp mc ms R8 R39 x0 x1 x2 x3 x4 x5 cd dd S_14) ∧
   (¬ r_14 = 0 →
    cA S_14 x4 9 ∧ ((cd ≤ mc ∧ dd ≤ ms) ∧ (k_X9_codeAt (fun r_16 S_16 => 
    (∃ mc17 ms18 : Nat, cd + mc17 ≤ mc ∧ dd + ms18 ≤ ms ∧ (k_X8_ownPostings (fun r_19 S_19 => 
    cA S_19 x4 9 ∧ ((cd + mc17 ≤ mc ∧ dd + ms18 ≤ ms) ∧ (k_X9_placesOf (fun r_20 S_20 => 
    cA S_20 r_19 5 ∧ ((∃ mc21 ms22 : Nat, cd + mc17 + mc21 ≤ mc ∧ dd + ms18 + ms22 ≤ ms ∧ (k_X5_putDocument (fun S_23 => 
    k_X8_readTexts_85 Q dp mc ms R8 R39 x0 x1 x2 x3 x4 x5 (cd + mc17 + mc21) (dd + ms18 + ms22) S_23) dp mc21 ms22 r_19 x3 r_20 S_20)))) dp x4 r_16 S_19))) dp mc17 ms18 x2 r_16 S_16))) dp x4 x5 S_14))))) dp x4 x5 S)))))
def k_X8_readTexts_39L (Q : cS → Prop) (dp : Nat) (mc ms : Nat) (R8 : Nat → Int32 → Nat → Int32 → Nat → Nat → cS → Prop) (x0 : Nat) (x1 : Int32) (x2 : Nat) (x3 : Int32) (x4 : Nat) (x5 : Int32) (cd dd : Nat) (S : cS) : Prop :=
  lfp (X := Nat × Int32 × Nat × Int32 × Nat × Int32 × Nat × Nat × cS) (fun P y => k_X8_readTexts_39 Q dp mc ms R8 (fun b0 b1 b2 b3 b4 b5 b6 b7 S => P (b0, b1, b2, b3, b4, b5, b6, b7, S)) y.1 y.2.1 y.2.2.1 y.2.2.2.1 y.2.2.2.2.1 y.2.2.2.2.2.1 y.2.2.2.2.2.2.1 y.2.2.2.2.2.2.2.1 y.2.2.2.2.2.2.2.2) (x0, x1, x2, x3, x4, x5, cd, dd, S)
def k_X8_readTexts_8 (Q : cS → Prop) (dp : Nat) (mc ms : Nat) (R8 : Nat → Int32 → Nat → Int32 → Nat → Nat → cS → Prop) (x0 : Nat) (x1 : Int32) (x2 : Nat) (x3 : Int32) (cd dd : Nat) (S : cS) : Prop :=
cA S x0 8 ∧ ((∃ b2 : Nat, cr S 257 x0 = some b2 ∧ (cA S b2 12 ∧ ((cd ≤ mc ∧ dd ≤ ms) ∧ (k_Jx4a65c_size_8abf5 (fun r_3 S_3 => 
((r_3 ≤ x3 →
  k_X8_readTexts_99L Q dp mc ms  x2 (((nI 0))) cd dd S_3) ∧
 (¬ r_3 ≤ x3 →
  cA S_3 x0 8 ∧ ((∃ b10 : Nat, cr S_3 257 x0 = some b10 ∧ (cA S_3 b10 12 ∧ ((cd ≤ mc ∧ dd ≤ ms) ∧ (k_Jx4a65c_get_915e3 (fun r_11 S_11 => 
  cA S_11 r_11 0 ∧ (cA S_11 r_11 0 ∧ ((cd ≤ mc ∧ dd ≤ ms) ∧ (k_X0_textOf (fun r_12 S_12 => 
  k_X8_readTexts_39L Q dp mc ms R8 x0 x1 x2 x3 r_12 (((nI 0))) cd dd S_12) dp r_11 x1 S_11)))) dp b10 x3 S_3)))))))) dp b2 S)))))
def k_X8_readTexts_8L (Q : cS → Prop) (dp : Nat) (mc ms : Nat)  (x0 : Nat) (x1 : Int32) (x2 : Nat) (x3 : Int32) (cd dd : Nat) (S : cS) : Prop :=
  lfp (X := Nat × Int32 × Nat × Int32 × Nat × Nat × cS) (fun P y => k_X8_readTexts_8 Q dp mc ms  (fun b0 b1 b2 b3 b4 b5 S => P (b0, b1, b2, b3, b4, b5, S)) y.1 y.2.1 y.2.2.1 y.2.2.2.1 y.2.2.2.2.1 y.2.2.2.2.2.1 y.2.2.2.2.2.2) (x0, x1, x2, x3, cd, dd, S)
def k_X8_readTexts (Q : cS → Prop) (dp : Nat) (mc ms : Nat) (x0 : Nat) (x1 : Int32) (S : cS) : Prop :=
cA S x0 8 ∧ ((0 ≤ mc ∧ 0 ≤ ms) ∧ (k_X8_wordsOf (fun r_1 S_1 => 
k_X8_readTexts_8L Q dp mc ms  x0 x1 r_1 (((nI 0))) 0 0 S_1) dp x0 x1 S))
section S_X8_readTexts
variable {p : Program} {l : Launch} {e : Env} {s : State} {m : MethodId} {args : Array Value} {below : List Frame} {meth : Method} {c : Code} {A : Nat → Prop} {D : va_G} {Y : cY} {tp dp : Nat}
set_option maxRecDepth 20000 in
theorem tb_X8_readTexts_99 {mc ms : Nat} (C : cC p s m args meth c cX8_readTexts 8 none A D Y tp dp RX8) {post : cS → Prop} {R99 : Nat → Int32 → Nat → Nat → cS → Prop} (hR99 : ∀ (x2 : Nat) (x3 : Int32) (cd dd : Nat) (S : cS), R99 x2 x3 cd dd S → cG p l e (cRm 8 mc ms 192) s m args below meth c A D Y 8 (MQ below (cQv post D Y A) args s mc ms A) cd dd 99 [(2, .ref x2), (3, .int x3)] [] S) (x2 : Nat) (x3 : Int32) (cd dd : Nat) (S : cS) (h : k_X8_readTexts_99 post dp mc ms R99 x2 x3 cd dd S) : cG p l e (cRm 8 mc ms 192) s m args below meth c A D Y 8 (MQ below (cQv post D Y A) args s mc ms A) cd dd 99 [(2, .ref x2), (3, .int x3)] [] S := by
  unfold k_X8_readTexts_99 at h
  refine cg_iload_n C (i := 3) rfl 1 rfl dX8_readTexts_99 ?_
  refine cg_aload_n C (i := 2) rfl 0 rfl dX8_readTexts_100 ?_
  obtain ⟨hc_101, h⟩ := h
  obtain ⟨hb_101, h⟩ := h
  refine cg_calli C (t_Jx4a65c_size_8abf5 l x2 S dp h) cc_X8_26 hc_101.1 hc_101.2 (by decide) rfl rfl ⟨by decide, by decide⟩ hb_101 rfl (Nat.le_of_ble_eq_true rfl) dX8_readTexts_101 (fun r_4 S_4 h => ?_)
  simp only [Nat.add_zero]
  refine cg_icmp_ge C 124 (by decide) dX8_readTexts_104 (fun c_ => ?_) (fun c_ => ?_)
  · have h := h.1 c_
    obtain ⟨hb_124, h⟩ := h
    exact cg_vret C h dX8_readTexts_124 hb_124.1 hb_124.2
  · have h := h.2 c_
    refine cg_aload_n C (i := 2) rfl 0 rfl dX8_readTexts_107 ?_
    refine cg_iload_n C (i := 3) rfl 1 rfl dX8_readTexts_108 ?_
    obtain ⟨hc_109, h⟩ := h
    obtain ⟨hb_109, h⟩ := h
    refine cg_callr C (t_Jx4a65c_get_915e3 l x2 x3 S_4 dp h) cc_X8_35 hc_109.1 hc_109.2 (by decide) rfl rfl ⟨by decide, by decide⟩ hb_109 rfl (Nat.le_of_ble_eq_true rfl) dX8_readTexts_109 (fun r_5 S_5 h => ?_)
    simp only [Nat.add_zero]
    obtain ⟨hc_112, h⟩ := h
    refine cg_ccast C (k := 5) hc_112.1 hc_112.2 (by decide) rfl cnc_X8_67 dX8_readTexts_112 ?_
    obtain ⟨hc_115, h⟩ := h
    obtain ⟨mc6, ms7, hm_1, hm_2, h⟩ := h
    refine cg_callv C (t_X5_close l mc6 ms7 r_5 S_5 dp h) cc_X8_72 hc_115.1 hc_115.2 (by decide) rfl rfl ⟨by decide, by decide⟩ ⟨hm_1, hm_2⟩ rfl (Nat.le_of_ble_eq_true rfl) dX8_readTexts_115 (fun S_8 h => ?_)
    obtain ⟨x3_9, e_x3_9⟩ : ∃ z : Int32, z = x3 + nI 1 := ⟨_, rfl⟩
    have h := h x3_9 e_x3_9
    refine cg_iinc C (lv' := [(3, .int x3_9), (2, .ref x2)]) 1 rfl (by rw [e_x3_9]; rfl) (Nat.le_of_ble_eq_true rfl) rfl dX8_readTexts_118 ?_
    refine cg_goto C 99 (by decide) dX8_readTexts_121 ?_
    exact cg_sub [1, 0] rfl (hR99 x2 x3_9 (cd + mc6) (dd + ms7) S_8 h)
set_option maxRecDepth 20000 in
theorem tl_X8_readTexts_99 {mc ms : Nat} (C : cC p s m args meth c cX8_readTexts 8 none A D Y tp dp RX8) {post : cS → Prop}   (x2 : Nat) (x3 : Int32) (cd dd : Nat) (S : cS) (h : k_X8_readTexts_99L post dp mc ms  x2 x3 cd dd S) : cG p l e (cRm 8 mc ms 192) s m args below meth c A D Y 8 (MQ below (cQv post D Y A) args s mc ms A) cd dd 99 [(2, .ref x2), (3, .int x3)] [] S :=
  h (fun y => cG p l e (cRm 8 mc ms 192) s m args below meth c A D Y 8 (MQ below (cQv post D Y A) args s mc ms A) (y.2.2.1) (y.2.2.2.1) 99 [(2, .ref (y.1)), (3, .int (y.2.1))] [] (y.2.2.2.2)) (fun y hy => tb_X8_readTexts_99 C   (fun b0 b1 b2 b3 S z => z) (y.1) (y.2.1) (y.2.2.1) (y.2.2.2.1) (y.2.2.2.2) hy)
set_option maxRecDepth 20000 in
theorem tb_X8_readTexts_85 {mc ms : Nat} (C : cC p s m args meth c cX8_readTexts 8 none A D Y tp dp RX8) {post : cS → Prop} {R8 : Nat → Int32 → Nat → Int32 → Nat → Nat → cS → Prop} {R39 : Nat → Int32 → Nat → Int32 → Nat → Int32 → Nat → Nat → cS → Prop} (hR8 : ∀ (x0 : Nat) (x1 : Int32) (x2 : Nat) (x3 : Int32) (cd dd : Nat) (S : cS), R8 x0 x1 x2 x3 cd dd S → cG p l e (cRm 8 mc ms 192) s m args below meth c A D Y 8 (MQ below (cQv post D Y A) args s mc ms A) cd dd 8 [(0, .ref x0), (1, .int x1), (2, .ref x2), (3, .int x3)] [] S) (hR39 : ∀ (x0 : Nat) (x1 : Int32) (x2 : Nat) (x3 : Int32) (x4 : Nat) (x5 : Int32) (cd dd : Nat) (S : cS), R39 x0 x1 x2 x3 x4 x5 cd dd S → cG p l e (cRm 8 mc ms 192) s m args below meth c A D Y 8 (MQ below (cQv post D Y A) args s mc ms A) cd dd 39 [(0, .ref x0), (1, .int x1), (2, .ref x2), (3, .int x3), (4, .ref x4), (5, .int x5)] [] S) (x0 : Nat) (x1 : Int32) (x2 : Nat) (x3 : Int32) (x4 : Nat) (x5 : Int32) (cd dd : Nat) (S : cS) (h : k_X8_readTexts_85 post dp mc ms R8 R39 x0 x1 x2 x3 x4 x5 cd dd S) : cG p l e (cRm 8 mc ms 192) s m args below meth c A D Y 8 (MQ below (cQv post D Y A) args s mc ms A) cd dd 85 [(0, .ref x0), (1, .int x1), (2, .ref x2), (3, .int x3), (4, .ref x4), (5, .int x5)] [] S := by
  unfold k_X8_readTexts_85 at h
  obtain ⟨x5_15, e_x5_15⟩ : ∃ z : Int32, z = x5 + nI 1 := ⟨_, rfl⟩
  have h := h x5_15 e_x5_15
  refine cg_iinc C (lv' := [(5, .int x5_15), (0, .ref x0), (1, .int x1), (2, .ref x2), (3, .int x3), (4, .ref x4)]) 5 rfl (by rw [e_x5_15]; rfl) (Nat.le_of_ble_eq_true rfl) rfl dX8_readTexts_85 ?_
  refine cg_goto C 39 (by decide) dX8_readTexts_88 ?_
  exact cg_sub [1, 2, 3, 4, 5, 0] rfl (hR39 x0 x1 x2 x3 x4 x5_15 cd dd S h)
set_option maxRecDepth 20000 in
theorem tb_X8_readTexts_39 {mc ms : Nat} (C : cC p s m args meth c cX8_readTexts 8 none A D Y tp dp RX8) {post : cS → Prop} {R8 : Nat → Int32 → Nat → Int32 → Nat → Nat → cS → Prop} {R39 : Nat → Int32 → Nat → Int32 → Nat → Int32 → Nat → Nat → cS → Prop} (hR8 : ∀ (x0 : Nat) (x1 : Int32) (x2 : Nat) (x3 : Int32) (cd dd : Nat) (S : cS), R8 x0 x1 x2 x3 cd dd S → cG p l e (cRm 8 mc ms 192) s m args below meth c A D Y 8 (MQ below (cQv post D Y A) args s mc ms A) cd dd 8 [(0, .ref x0), (1, .int x1), (2, .ref x2), (3, .int x3)] [] S) (hR39 : ∀ (x0 : Nat) (x1 : Int32) (x2 : Nat) (x3 : Int32) (x4 : Nat) (x5 : Int32) (cd dd : Nat) (S : cS), R39 x0 x1 x2 x3 x4 x5 cd dd S → cG p l e (cRm 8 mc ms 192) s m args below meth c A D Y 8 (MQ below (cQv post D Y A) args s mc ms A) cd dd 39 [(0, .ref x0), (1, .int x1), (2, .ref x2), (3, .int x3), (4, .ref x4), (5, .int x5)] [] S) (x0 : Nat) (x1 : Int32) (x2 : Nat) (x3 : Int32) (x4 : Nat) (x5 : Int32) (cd dd : Nat) (S : cS) (h : k_X8_readTexts_39 post dp mc ms R8 R39 x0 x1 x2 x3 x4 x5 cd dd S) : cG p l e (cRm 8 mc ms 192) s m args below meth c A D Y 8 (MQ below (cQv post D Y A) args s mc ms A) cd dd 39 [(0, .ref x0), (1, .int x1), (2, .ref x2), (3, .int x3), (4, .ref x4), (5, .int x5)] [] S := by
  unfold k_X8_readTexts_39 at h
  refine cg_iload C 5 rfl dX8_readTexts_39 ?_
  refine cg_aload C 4 rfl dX8_readTexts_41 ?_
  obtain ⟨hc_43, h⟩ := h
  refine cg_get C (k := 9) (j := 4) (.int (ci S 292 x4)) hc_43.1 hc_43.2 (by decide) rfl (by decide) rfl rfl cWs_wsX90 cl_X8_45 rfl dX8_readTexts_43 ?_
  refine cg_icmp_ge C 91 (by decide) dX8_readTexts_46 (fun c_ => ?_) (fun c_ => ?_)
  · have h := h.1 c_
    obtain ⟨x3_13, e_x3_13⟩ : ∃ z : Int32, z = x3 + nI 1 := ⟨_, rfl⟩
    have h := h x3_13 e_x3_13
    refine cg_iinc C (lv' := [(3, .int x3_13), (0, .ref x0), (1, .int x1), (2, .ref x2), (4, .ref x4), (5, .int x5)]) 3 rfl (by rw [e_x3_13]; rfl) (Nat.le_of_ble_eq_true rfl) rfl dX8_readTexts_91 ?_
    refine cg_goto C 8 (by decide) dX8_readTexts_94 ?_
    exact cg_sub [1, 2, 3, 0] rfl (hR8 x0 x1 x2 x3_13 cd dd S h)
  · have h := h.2 c_
    refine cg_aload C 4 rfl dX8_readTexts_49 ?_
    refine cg_iload C 5 rfl dX8_readTexts_51 ?_
    obtain ⟨hc_53, h⟩ := h
    obtain ⟨hb_53, h⟩ := h
    refine cg_calli C (t_X9_isFirst l x4 x5 S dp h) cc_X8_50 hc_53.1 hc_53.2 (by decide) rfl rfl ⟨by decide, by decide⟩ hb_53 rfl (Nat.le_of_ble_eq_true rfl) dX8_readTexts_53 (fun r_14 S_14 h => ?_)
    simp only [Nat.add_zero]
    refine cg_if_eq C 85 (by decide) dX8_readTexts_56 (fun c_ => ?_) (fun c_ => ?_)
    · have h := h.1 c_
      exact cg_sub [0, 1, 2, 3, 4, 5] rfl (tb_X8_readTexts_85 C  hR8 hR39 x0 x1 x2 x3 x4 x5 cd dd S_14 h)
    · have h := h.2 c_
      refine cg_aload C 4 rfl dX8_readTexts_59 ?_
      refine cg_iload C 5 rfl dX8_readTexts_61 ?_
      obtain ⟨hc_63, h⟩ := h
      obtain ⟨hb_63, h⟩ := h
      refine cg_calll C (t_X9_codeAt l x4 x5 S_14 dp h) cc_X8_54 hc_63.1 hc_63.2 (by decide) rfl rfl ⟨by decide, by decide⟩ hb_63 rfl (Nat.le_of_ble_eq_true rfl) dX8_readTexts_63 (fun r_16 S_16 h => ?_)
      simp only [Nat.add_zero]
      refine cg_lstore C (lv' := [(6, .long r_16), (0, .ref x0), (1, .int x1), (2, .ref x2), (3, .int x3), (4, .ref x4), (5, .int x5)]) (Nat.le_of_ble_eq_true rfl) rfl dX8_readTexts_66 ?_
      refine cg_aload_n C (i := 2) rfl 3 rfl dX8_readTexts_68 ?_
      refine cg_lload C 0 rfl dX8_readTexts_69 ?_
      obtain ⟨mc17, ms18, hm_1, hm_2, h⟩ := h
      refine cg_callsr C (t_X8_ownPostings l mc17 ms18 x2 r_16 S_16 dp h) cc_X8_58 rfl ⟨by decide, by decide⟩ ⟨hm_1, hm_2⟩ rfl (Nat.le_of_ble_eq_true rfl) dX8_readTexts_71 (fun r_19 S_19 h => ?_)
      refine cg_iload_n C (i := 3) rfl 4 rfl dX8_readTexts_74 ?_
      refine cg_aload C 5 rfl dX8_readTexts_75 ?_
      refine cg_lload C 0 rfl dX8_readTexts_77 ?_
      obtain ⟨hc_79, h⟩ := h
      obtain ⟨hb_79, h⟩ := h
      refine cg_calli C (t_X9_placesOf l x4 r_16 S_19 dp h) cc_X8_62 hc_79.1 hc_79.2 (by decide) rfl rfl ⟨by decide, by decide⟩ hb_79 rfl (Nat.le_of_ble_eq_true rfl) dX8_readTexts_79 (fun r_20 S_20 h => ?_)
      simp only [Nat.add_zero]
      obtain ⟨hc_82, h⟩ := h
      obtain ⟨mc21, ms22, hm_1, hm_2, h⟩ := h
      refine cg_callv C (t_X5_putDocument l mc21 ms22 r_19 x3 r_20 S_20 dp h) cc_X8_66 hc_82.1 hc_82.2 (by decide) rfl rfl ⟨by decide, by decide⟩ ⟨hm_1, hm_2⟩ rfl (Nat.le_of_ble_eq_true rfl) dX8_readTexts_82 (fun S_23 h => ?_)
      exact cg_sub [1, 2, 3, 4, 5, 6] rfl (tb_X8_readTexts_85 C  hR8 hR39 x0 x1 x2 x3 x4 x5 (cd + mc17 + mc21) (dd + ms18 + ms22) S_23 h)
set_option maxRecDepth 20000 in
theorem tl_X8_readTexts_39 {mc ms : Nat} (C : cC p s m args meth c cX8_readTexts 8 none A D Y tp dp RX8) {post : cS → Prop} {R8 : Nat → Int32 → Nat → Int32 → Nat → Nat → cS → Prop} (hR8 : ∀ (x0 : Nat) (x1 : Int32) (x2 : Nat) (x3 : Int32) (cd dd : Nat) (S : cS), R8 x0 x1 x2 x3 cd dd S → cG p l e (cRm 8 mc ms 192) s m args below meth c A D Y 8 (MQ below (cQv post D Y A) args s mc ms A) cd dd 8 [(0, .ref x0), (1, .int x1), (2, .ref x2), (3, .int x3)] [] S) (x0 : Nat) (x1 : Int32) (x2 : Nat) (x3 : Int32) (x4 : Nat) (x5 : Int32) (cd dd : Nat) (S : cS) (h : k_X8_readTexts_39L post dp mc ms R8 x0 x1 x2 x3 x4 x5 cd dd S) : cG p l e (cRm 8 mc ms 192) s m args below meth c A D Y 8 (MQ below (cQv post D Y A) args s mc ms A) cd dd 39 [(0, .ref x0), (1, .int x1), (2, .ref x2), (3, .int x3), (4, .ref x4), (5, .int x5)] [] S :=
  h (fun y => cG p l e (cRm 8 mc ms 192) s m args below meth c A D Y 8 (MQ below (cQv post D Y A) args s mc ms A) (y.2.2.2.2.2.2.1) (y.2.2.2.2.2.2.2.1) 39 [(0, .ref (y.1)), (1, .int (y.2.1)), (2, .ref (y.2.2.1)), (3, .int (y.2.2.2.1)), (4, .ref (y.2.2.2.2.1)), (5, .int (y.2.2.2.2.2.1))] [] (y.2.2.2.2.2.2.2.2)) (fun y hy => tb_X8_readTexts_39 C  hR8 (fun b0 b1 b2 b3 b4 b5 b6 b7 S z => z) (y.1) (y.2.1) (y.2.2.1) (y.2.2.2.1) (y.2.2.2.2.1) (y.2.2.2.2.2.1) (y.2.2.2.2.2.2.1) (y.2.2.2.2.2.2.2.1) (y.2.2.2.2.2.2.2.2) hy)
set_option maxRecDepth 20000 in
theorem tb_X8_readTexts_8 {mc ms : Nat} (C : cC p s m args meth c cX8_readTexts 8 none A D Y tp dp RX8) {post : cS → Prop} {R8 : Nat → Int32 → Nat → Int32 → Nat → Nat → cS → Prop} (hR8 : ∀ (x0 : Nat) (x1 : Int32) (x2 : Nat) (x3 : Int32) (cd dd : Nat) (S : cS), R8 x0 x1 x2 x3 cd dd S → cG p l e (cRm 8 mc ms 192) s m args below meth c A D Y 8 (MQ below (cQv post D Y A) args s mc ms A) cd dd 8 [(0, .ref x0), (1, .int x1), (2, .ref x2), (3, .int x3)] [] S) (x0 : Nat) (x1 : Int32) (x2 : Nat) (x3 : Int32) (cd dd : Nat) (S : cS) (h : k_X8_readTexts_8 post dp mc ms R8 x0 x1 x2 x3 cd dd S) : cG p l e (cRm 8 mc ms 192) s m args below meth c A D Y 8 (MQ below (cQv post D Y A) args s mc ms A) cd dd 8 [(0, .ref x0), (1, .int x1), (2, .ref x2), (3, .int x3)] [] S := by
  unfold k_X8_readTexts_8 at h
  refine cg_iload_n C (i := 3) rfl 3 rfl dX8_readTexts_8 ?_
  refine cg_aload_n C (i := 0) rfl 0 rfl dX8_readTexts_9 ?_
  obtain ⟨hc_10, h⟩ := h
  obtain ⟨b2, hb_b2, h⟩ := h
  refine cg_get C (k := 8) (j := 1) (.ref b2) hc_10.1 hc_10.2 (by decide) rfl (by decide) rfl (show cV _ 8 1 x0 = _ from congrArg va_rf hb_b2) cWs_wsX80 cl_X8_10 rfl dX8_readTexts_10 ?_
  obtain ⟨hc_13, h⟩ := h
  obtain ⟨hb_13, h⟩ := h
  refine cg_calli C (t_Jx4a65c_size_8abf5 l b2 S dp h) cc_X8_26 hc_13.1 hc_13.2 (by decide) rfl rfl ⟨by decide, by decide⟩ hb_13 rfl (Nat.le_of_ble_eq_true rfl) dX8_readTexts_13 (fun r_3 S_3 h => ?_)
  simp only [Nat.add_zero]
  refine cg_icmp_ge C 97 (by decide) dX8_readTexts_16 (fun c_ => ?_) (fun c_ => ?_)
  · have h := h.1 c_
    refine cg_iconst C (x := nI 0) rfl dX8_readTexts_97 ?_
    refine cg_istore_n C (i := 3) (lv' := [(3, .int ((nI 0))), (0, .ref x0), (1, .int x1), (2, .ref x2)]) rfl (Nat.le_of_ble_eq_true rfl) rfl dX8_readTexts_98 ?_
    exact cg_sub [3, 0] rfl (tl_X8_readTexts_99 C   x2 (((nI 0))) cd dd S_3 h)
  · have h := h.2 c_
    refine cg_aload_n C (i := 0) rfl 0 rfl dX8_readTexts_19 ?_
    obtain ⟨hc_20, h⟩ := h
    obtain ⟨b10, hb_b10, h⟩ := h
    refine cg_get C (k := 8) (j := 1) (.ref b10) hc_20.1 hc_20.2 (by decide) rfl (by decide) rfl (show cV _ 8 1 x0 = _ from congrArg va_rf hb_b10) cWs_wsX80 cl_X8_10 rfl dX8_readTexts_20 ?_
    refine cg_iload_n C (i := 3) rfl 3 rfl dX8_readTexts_23 ?_
    obtain ⟨hc_24, h⟩ := h
    obtain ⟨hb_24, h⟩ := h
    refine cg_callr C (t_Jx4a65c_get_915e3 l b10 x3 S_3 dp h) cc_X8_35 hc_24.1 hc_24.2 (by decide) rfl rfl ⟨by decide, by decide⟩ hb_24 rfl (Nat.le_of_ble_eq_true rfl) dX8_readTexts_24 (fun r_11 S_11 h => ?_)
    simp only [Nat.add_zero]
    obtain ⟨hc_27, h⟩ := h
    refine cg_ccast C (k := 0) hc_27.1 hc_27.2 (by decide) rfl cnc_X8_39 dX8_readTexts_27 ?_
    refine cg_iload_n C (i := 1) rfl 1 rfl dX8_readTexts_30 ?_
    obtain ⟨hc_31, h⟩ := h
    obtain ⟨hb_31, h⟩ := h
    refine cg_callr C (t_X0_textOf l r_11 x1 S_11 dp h) cc_X8_41 hc_31.1 hc_31.2 (by decide) rfl rfl ⟨by decide, by decide⟩ hb_31 rfl (Nat.le_of_ble_eq_true rfl) dX8_readTexts_31 (fun r_12 S_12 h => ?_)
    simp only [Nat.add_zero]
    refine cg_astore (lv' := [(4, .ref r_12), (0, .ref x0), (1, .int x1), (2, .ref x2), (3, .int x3)]) C (Nat.le_of_ble_eq_true rfl) rfl dX8_readTexts_34 ?_
    refine cg_iconst C (x := nI 0) rfl dX8_readTexts_36 ?_
    refine cg_istore C (lv' := [(5, .int ((nI 0))), (4, .ref r_12), (0, .ref x0), (1, .int x1), (2, .ref x2), (3, .int x3)]) (Nat.le_of_ble_eq_true rfl) rfl dX8_readTexts_37 ?_
    exact cg_sub [2, 3, 4, 5, 1, 0] rfl (tl_X8_readTexts_39 C  hR8 x0 x1 x2 x3 r_12 (((nI 0))) cd dd S_12 h)
set_option maxRecDepth 20000 in
theorem tl_X8_readTexts_8 {mc ms : Nat} (C : cC p s m args meth c cX8_readTexts 8 none A D Y tp dp RX8) {post : cS → Prop}   (x0 : Nat) (x1 : Int32) (x2 : Nat) (x3 : Int32) (cd dd : Nat) (S : cS) (h : k_X8_readTexts_8L post dp mc ms  x0 x1 x2 x3 cd dd S) : cG p l e (cRm 8 mc ms 192) s m args below meth c A D Y 8 (MQ below (cQv post D Y A) args s mc ms A) cd dd 8 [(0, .ref x0), (1, .int x1), (2, .ref x2), (3, .int x3)] [] S :=
  h (fun y => cG p l e (cRm 8 mc ms 192) s m args below meth c A D Y 8 (MQ below (cQv post D Y A) args s mc ms A) (y.2.2.2.2.1) (y.2.2.2.2.2.1) 8 [(0, .ref (y.1)), (1, .int (y.2.1)), (2, .ref (y.2.2.1)), (3, .int (y.2.2.2.1))] [] (y.2.2.2.2.2.2)) (fun y hy => tb_X8_readTexts_8 C   (fun b0 b1 b2 b3 b4 b5 S z => z) (y.1) (y.2.1) (y.2.2.1) (y.2.2.2.1) (y.2.2.2.2.1) (y.2.2.2.2.2.1) (y.2.2.2.2.2.2) hy)
end S_X8_readTexts
set_option maxHeartbeats 1000000 in
set_option maxRecDepth 20000 in
theorem t_X8_readTexts (l : Launch) (mc ms : Nat) (x0 : Nat) (x1 : Int32) (S : cS) (dp : Nat) {P : cS → Prop} (h : k_X8_readTexts P dp mc ms x0 x1 S) : cMet (cQv P) l yX8_readTexts cX8_readTexts 8 none 8 mc ms 192 [.ref x0, .int x1] S dp := by
  intro D Y tp sz
  refine cg_body (by decide +kernel) (Nat.le_of_ble_eq_true rfl) ?_
  intro p e s m args below meth c C
  generalize va_A (cWd Y S) sz = A at C ⊢
  have C : cC p s m args meth c cX8_readTexts 8 none A D Y tp dp RX8 := C
  refine cg_lv (lv' := [(0, .ref x0), (1, .int x1)]) rfl ?_
  unfold k_X8_readTexts at h
  refine cg_aload_n C (i := 0) rfl 0 rfl dX8_readTexts_0 ?_
  refine cg_iload_n C (i := 1) rfl 1 rfl dX8_readTexts_1 ?_
  obtain ⟨hc_2, h⟩ := h
  obtain ⟨hb_2, h⟩ := h
  refine cg_callr C (t_X8_wordsOf l x0 x1 S dp h) cc_X8_31 hc_2.1 hc_2.2 (by decide) rfl rfl ⟨by decide, by decide⟩ hb_2 rfl (Nat.le_of_ble_eq_true rfl) dX8_readTexts_2 (fun r_1 S_1 h => ?_)
  simp only [Nat.add_zero]
  refine cg_astore_n (lv' := [(2, .ref r_1), (0, .ref x0), (1, .int x1)]) C (i := 2) rfl (Nat.le_of_ble_eq_true rfl) rfl dX8_readTexts_5 ?_
  refine cg_iconst C (x := nI 0) rfl dX8_readTexts_6 ?_
  refine cg_istore_n C (i := 3) (lv' := [(3, .int ((nI 0))), (2, .ref r_1), (0, .ref x0), (1, .int x1)]) rfl (Nat.le_of_ble_eq_true rfl) rfl dX8_readTexts_7 ?_
  exact cg_sub [2, 3, 1, 0] rfl (tl_X8_readTexts_8 C   x0 x1 r_1 (((nI 0))) 0 0 S_1 h)
def k_X9_putSign_32 (Q : Int32 → cS → Prop) (dp : Nat)  (x0 : Nat) (S : cS) : Prop :=
cA S x0 9 ∧ (Q ((ci S 289 x0)) S)
def k_X9_putSign (Q : Int32 → cS → Prop) (dp : Nat) (x0 : Nat) (x1 : Int32) (S : cS) : Prop :=
cA S x0 9 ∧ (cA S x0 9 ∧ ((∃ b1 : Nat, cr S 288 x0 = some b1 ∧ (cA S b1 14 ∧ (((((nI (cn S b1))) ≤ ((ci S 289 x0)) →
  k_X9_putSign_32 Q dp  x0 S) ∧
 (¬ ((nI (cn S b1))) ≤ ((ci S 289 x0)) →
  cA S x0 9 ∧ ((∃ b2 : Nat, cr S 288 x0 = some b2 ∧ (cA S x0 9 ∧ (cX S b2 14 ((ci S 289 x0)) ∧ (∀ S3 : cS, S3 = cSI S b2 ((ci S 289 x0)).toNatClampNeg x1 → cA S3 x0 9 ∧ (cA S3 x0 9 ∧ (∀ S4 : cS, S4 = cSi S3 289 x0 ((((ci S3 289 x0)) + ((nI 1)))) → k_X9_putSign_32 Q dp  x0 S4))))))))))))))
section S_X9_putSign
variable {p : Program} {l : Launch} {e : Env} {s : State} {m : MethodId} {args : Array Value} {below : List Frame} {meth : Method} {c : Code} {A : Nat → Prop} {D : va_G} {Y : cY} {tp dp : Nat}
set_option maxRecDepth 20000 in
theorem tb_X9_putSign_32 (C : cC p s m args meth c cX9_putSign 2 (some .int) A D Y tp dp RX9) {post : Int32 → cS → Prop}   (x0 : Nat) (S : cS) (h : k_X9_putSign_32 post dp  x0 S) : cG p l e (cRm 0 0 0 0) s m args below meth c A D Y 2 (MQ below (cQi post D Y A) args s 0 0 A) 0 0 32 [(0, .ref x0)] [] S := by
  unfold k_X9_putSign_32 at h
  refine cg_aload_n C (i := 0) rfl 0 rfl dX9_putSign_32 ?_
  obtain ⟨hc_33, h⟩ := h
  refine cg_get C (k := 9) (j := 1) (.int (ci S 289 x0)) hc_33.1 hc_33.2 (by decide) rfl (by decide) rfl rfl cWs_wsX90 cl_X9_15 rfl dX9_putSign_33 ?_
  exact cg_iret C h dX9_putSign_36 (by decide) (by decide)
end S_X9_putSign
set_option maxHeartbeats 1000000 in
set_option maxRecDepth 20000 in
theorem t_X9_putSign (l : Launch) (x0 : Nat) (x1 : Int32) (S : cS) (dp : Nat) {P : Int32 → cS → Prop} (h : k_X9_putSign P dp x0 x1 S) : cMet (cQi P) l yX9_putSign cX9_putSign 2 (some .int) 0 0 0 0 [.ref x0, .int x1] S dp := by
  intro D Y tp sz
  refine cg_body (by decide +kernel) (Nat.le_of_ble_eq_true rfl) ?_
  intro p e s m args below meth c C
  generalize va_A (cWd Y S) sz = A at C ⊢
  have C : cC p s m args meth c cX9_putSign 2 (some .int) A D Y tp dp RX9 := C
  refine cg_lv (lv' := [(0, .ref x0), (1, .int x1)]) rfl ?_
  unfold k_X9_putSign at h
  refine cg_aload_n C (i := 0) rfl 0 rfl dX9_putSign_0 ?_
  obtain ⟨hc_1, h⟩ := h
  refine cg_get C (k := 9) (j := 1) (.int (ci S 289 x0)) hc_1.1 hc_1.2 (by decide) rfl (by decide) rfl rfl cWs_wsX90 cl_X9_15 rfl dX9_putSign_1 ?_
  refine cg_aload_n C (i := 0) rfl 0 rfl dX9_putSign_4 ?_
  obtain ⟨hc_5, h⟩ := h
  obtain ⟨b1, hb_b1, h⟩ := h
  refine cg_get C (k := 9) (j := 0) (.ref b1) hc_5.1 hc_5.2 (by decide) rfl (by decide) rfl (show cV _ 9 0 x0 = _ from congrArg va_rf hb_b1) cWs_wsX90 cl_X9_9 rfl dX9_putSign_5 ?_
  obtain ⟨hc_8, h⟩ := h
  refine cg_alen C hc_8.1 hc_8.2 (by decide) (by decide) dX9_putSign_8 ?_
  refine cg_icmp_ge C 32 (by decide) dX9_putSign_9 (fun c_ => ?_) (fun c_ => ?_)
  · have h := h.1 c_
    exact cg_sub [0] rfl (tb_X9_putSign_32 C   x0 S h)
  · have h := h.2 c_
    refine cg_aload_n C (i := 0) rfl 0 rfl dX9_putSign_12 ?_
    obtain ⟨hc_13, h⟩ := h
    obtain ⟨b2, hb_b2, h⟩ := h
    refine cg_get C (k := 9) (j := 0) (.ref b2) hc_13.1 hc_13.2 (by decide) rfl (by decide) rfl (show cV _ 9 0 x0 = _ from congrArg va_rf hb_b2) cWs_wsX90 cl_X9_9 rfl dX9_putSign_13 ?_
    refine cg_aload_n C (i := 0) rfl 0 rfl dX9_putSign_16 ?_
    obtain ⟨hc_17, h⟩ := h
    refine cg_get C (k := 9) (j := 1) (.int (ci S 289 x0)) hc_17.1 hc_17.2 (by decide) rfl (by decide) rfl rfl cWs_wsX90 cl_X9_15 rfl dX9_putSign_17 ?_
    refine cg_iload_n C (i := 1) rfl 1 rfl dX9_putSign_20 ?_
    obtain ⟨hc_21, h⟩ := h
    refine cg_iastoreR C hc_21 dX9_putSign_21 ?_
    refine cg_nm (fun S3 e_S3 => ?_)
    have h := h S3 e_S3
    refine cg_aload_n C (i := 0) rfl 0 rfl dX9_putSign_22 ?_
    refine cg_dup C rfl dX9_putSign_23 ?_
    obtain ⟨hc_24, h⟩ := h
    refine cg_get C (k := 9) (j := 1) (.int (ci S3 289 x0)) hc_24.1 hc_24.2 (by decide) rfl (by decide) rfl rfl cWs_wsX90 cl_X9_15 rfl dX9_putSign_24 ?_
    refine cg_iconst C (x := nI 1) rfl dX9_putSign_27 ?_
    refine cg_iadd C dX9_putSign_28 ?_
    obtain ⟨hc_29, h⟩ := h
    refine cg_puti C (k := 9) (j := 1) (ty := tyX9) (fty := .int) hc_29.1 hc_29.2 (by decide) rfl (by decide) rfl (by decide) rfl cWs_wsX90 tyX9_ok nmX9 cl_X9_15 rfl rfl rfl rfl rfl dX9_putSign_29 ?_
    refine cg_nm (fun S4 e_S4 => ?_)
    have h := h S4 e_S4
    exact cg_sub [0] rfl (tb_X9_putSign_32 C   x0 S4 h)
def k_X10_init (Q : cS → Prop) (dp : Nat) (mc ms : Nat) (x0 : Nat) (x1 : Int32) (S : cS) : Prop :=
(0 + 1 ≤ mc ∧ 0 + 3 ≤ ms) ∧ (∀ q1 : Nat, q1 ∉ cL S → ∀ S2 : cS, S2 = cNew S q1 12 → (0 + 1 ≤ mc ∧ 0 + 3 ≤ ms) ∧ (k_Jx4a65c_init_da8c8 (fun S_3 => 
cA S_3 x0 10 ∧ (∀ S4 : cS, S4 = cSr S_3 321 x0 ((some q1)) → cA S4 x0 10 ∧ (∀ S5 : cS, S5 = cSi S4 320 x0 x1 → (0 + 1 ≤ mc ∧ 0 + 3 ≤ ms) ∧ (Q S5)))) dp q1 S2))
set_option maxHeartbeats 1000000 in
set_option maxRecDepth 20000 in
theorem t_X10_init (l : Launch) (mc ms : Nat) (x0 : Nat) (x1 : Int32) (S : cS) (dp : Nat) {P : cS → Prop} (h : k_X10_init P dp mc ms x0 x1 S) : cMet (cQv P) l yX10_init cX10_init 2 none 4 mc ms 92 [.ref x0, .int x1] S dp := by
  intro D Y tp sz
  refine cg_bodyI (by decide +kernel) (Nat.le_of_ble_eq_true rfl) ?_
  intro p e s m args below meth c C hin
  generalize va_A (cWd Y S) sz = A at C ⊢
  have C : cC p s m args meth c cX10_init 2 none A D Y tp dp RX10 := C
  refine cg_lv (lv' := [(0, .ref x0), (1, .int x1)]) rfl ?_
  unfold k_X10_init at h
  refine cg_aload_n C (i := 0) rfl 0 rfl dX10_init_0 ?_
  refine cg_objInit C co_X10_3 co_i co_c (by decide) (Nat.le_of_ble_eq_true rfl) dX10_init_1 ?_
  refine cg_aload_n C (i := 0) rfl 0 rfl dX10_init_4 ?_
  obtain ⟨hc_5, h⟩ := h
  refine cg_new C (k := 12) (N := 3) (fs := [.int 0, .null, .int 0]) (by decide) rfl cWs_wsJx4a65c0 tyJx4a65c_ok cn_X10_9 ci_Jx4a65c ct_Jx4a65c (fun j_ hj_ => by rcases (show j_ = 0 ∨ j_ = 1 ∨ j_ = 2 by omega) with rfl | rfl | rfl <;> rfl) rfl hc_5.1 hc_5.2 dX10_init_5 (fun q1 hf_q1 => ?_)
  have h := h q1 hf_q1
  refine cg_nm (fun S2 e_S2 => ?_)
  have h := h S2 e_S2
  refine cg_dup C rfl dX10_init_8 ?_
  obtain ⟨hb_9, h⟩ := h
  refine cg_callI C (t_Jx4a65c_init_da8c8 l q1 S2 dp h) cz_X10_11 rfl ⟨by decide, by decide⟩ hb_9 rfl (Nat.le_of_ble_eq_true rfl) dX10_init_9 (fun S_3 h => ?_)
  simp only [Nat.add_zero]
  obtain ⟨hc_12, h⟩ := h
  refine cg_putrF C (k := 10) (j := 1) (x := (some q1)) (ty := tyX10) (fty := tyX10 1) hc_12.1 hc_12.2 (by decide) rfl (by decide) rfl (by decide) rfl cWs_wsX100 tyX10_ok nmX10 cl_X10_12 rfl rfl hin rfl rfl rfl rfl dX10_init_12 ?_
  refine cg_nm (fun S4 e_S4 => ?_)
  have h := h S4 e_S4
  refine cg_aload_n C (i := 0) rfl 0 rfl dX10_init_15 ?_
  refine cg_iload_n C (i := 1) rfl 1 rfl dX10_init_16 ?_
  obtain ⟨hc_17, h⟩ := h
  refine cg_puti C (k := 10) (j := 0) (ty := tyX10) (fty := .int) hc_17.1 hc_17.2 (by decide) rfl (by decide) rfl (by decide) rfl cWs_wsX100 tyX10_ok nmX10 cl_X10_18 rfl rfl rfl rfl rfl dX10_init_17 ?_
  refine cg_nm (fun S5 e_S5 => ?_)
  have h := h S5 e_S5
  obtain ⟨hb_20, h⟩ := h
  exact cg_vret C h dX10_init_20 hb_20.1 hb_20.2
def k_X10_put (Q : cS → Prop) (dp : Nat) (mc ms : Nat) (x0 : Nat) (x1 : Int32) (x2 : Nat) (S : cS) : Prop :=
((x1 < 0 →
  (0 ≤ mc ∧ 0 ≤ ms) ∧ (Q S)) ∧
 (¬ x1 < 0 →
  cA S x0 10 ∧ ((∃ b1 : Nat, cr S 321 x0 = some b1 ∧ (cA S b1 12 ∧ ((0 ≤ mc ∧ 0 ≤ ms) ∧ (k_Jx4a65c_size_8abf5 (fun r_2 S_2 => 
  ((r_2 < x1 →
    (0 ≤ mc ∧ 0 ≤ ms) ∧ (Q S_2)) ∧
   (¬ r_2 < x1 →
    cA S_2 x0 10 ∧ ((∃ b3 : Nat, cr S_2 321 x0 = some b3 ∧ (cA S_2 b3 12 ∧ ((∃ mc4 ms5 : Nat, 0 + mc4 ≤ mc ∧ 0 + ms5 ≤ ms ∧ (k_Jx4a65c_add_7a177 (fun S_6 => 
    (0 + mc4 ≤ mc ∧ 0 + ms5 ≤ ms) ∧ (Q S_6)) dp mc4 ms5 b3 x1 x2 S_2))))))))) dp b1 S)))))))
set_option maxHeartbeats 1000000 in
set_option maxRecDepth 20000 in
theorem t_X10_put (l : Launch) (mc ms : Nat) (x0 : Nat) (x1 : Int32) (x2 : Nat) (S : cS) (dp : Nat) {P : cS → Prop} (h : k_X10_put P dp mc ms x0 x1 x2 S) : cMet (cQv P) l yX10_put cX10_put 3 none 7 mc ms 168 [.ref x0, .int x1, .ref x2] S dp := by
  intro D Y tp sz
  refine cg_body (by decide +kernel) (Nat.le_of_ble_eq_true rfl) ?_
  intro p e s m args below meth c C
  generalize va_A (cWd Y S) sz = A at C ⊢
  have C : cC p s m args meth c cX10_put 3 none A D Y tp dp RX10 := C
  refine cg_lv (lv' := [(0, .ref x0), (1, .int x1), (2, .ref x2)]) rfl ?_
  unfold k_X10_put at h
  refine cg_iload_n C (i := 1) rfl 1 rfl dX10_put_0 ?_
  refine cg_if_lt C 24 (by decide) dX10_put_1 (fun c_ => ?_) (fun c_ => ?_)
  · have h := h.1 c_
    obtain ⟨hb_24, h⟩ := h
    exact cg_vret C h dX10_put_24 hb_24.1 hb_24.2
  · have h := h.2 c_
    refine cg_iload_n C (i := 1) rfl 1 rfl dX10_put_4 ?_
    refine cg_aload_n C (i := 0) rfl 0 rfl dX10_put_5 ?_
    obtain ⟨hc_6, h⟩ := h
    obtain ⟨b1, hb_b1, h⟩ := h
    refine cg_get C (k := 10) (j := 1) (.ref b1) hc_6.1 hc_6.2 (by decide) rfl (by decide) rfl (show cV _ 10 1 x0 = _ from congrArg va_rf hb_b1) cWs_wsX100 cl_X10_12 rfl dX10_put_6 ?_
    obtain ⟨hc_9, h⟩ := h
    obtain ⟨hb_9, h⟩ := h
    refine cg_calli C (t_Jx4a65c_size_8abf5 l b1 S dp h) cc_X10_22 hc_9.1 hc_9.2 (by decide) rfl rfl ⟨by decide, by decide⟩ hb_9 rfl (Nat.le_of_ble_eq_true rfl) dX10_put_9 (fun r_2 S_2 h => ?_)
    simp only [Nat.add_zero]
    refine cg_icmp_gt C 24 (by decide) dX10_put_12 (fun c_ => ?_) (fun c_ => ?_)
    · have h := h.1 c_
      obtain ⟨hb_24, h⟩ := h
      exact cg_vret C h dX10_put_24 hb_24.1 hb_24.2
    · have h := h.2 c_
      refine cg_aload_n C (i := 0) rfl 0 rfl dX10_put_15 ?_
      obtain ⟨hc_16, h⟩ := h
      obtain ⟨b3, hb_b3, h⟩ := h
      refine cg_get C (k := 10) (j := 1) (.ref b3) hc_16.1 hc_16.2 (by decide) rfl (by decide) rfl (show cV _ 10 1 x0 = _ from congrArg va_rf hb_b3) cWs_wsX100 cl_X10_12 rfl dX10_put_16 ?_
      refine cg_iload_n C (i := 1) rfl 1 rfl dX10_put_19 ?_
      refine cg_aload_n C (i := 2) rfl 2 rfl dX10_put_20 ?_
      obtain ⟨hc_21, h⟩ := h
      obtain ⟨mc4, ms5, hm_1, hm_2, h⟩ := h
      refine cg_callv C (t_Jx4a65c_add_7a177 l mc4 ms5 b3 x1 x2 S_2 dp h) cc_X10_32 hc_21.1 hc_21.2 (by decide) rfl rfl ⟨by decide, by decide⟩ ⟨hm_1, hm_2⟩ rfl (Nat.le_of_ble_eq_true rfl) dX10_put_21 (fun S_6 h => ?_)
      obtain ⟨hb_24, h⟩ := h
      exact cg_vret C h dX10_put_24 hb_24.1 hb_24.2
def k_X10_placeOf_2 (Q : Int32 → cS → Prop) (dp : Nat) (R2 : Nat → Nat → Int32 → cS → Prop) (x0 : Nat) (x1 : Nat) (x2 : Int32) (S : cS) : Prop :=
cA S x0 10 ∧ ((∃ b1 : Nat, cr S 321 x0 = some b1 ∧ (cA S b1 12 ∧ (k_Jx4a65c_size_8abf5 (fun r_2 S_2 => 
((r_2 ≤ x2 →
  Q (((-1))) S_2) ∧
 (¬ r_2 ≤ x2 →
  cA S_2 x0 10 ∧ ((∃ b3 : Nat, cr S_2 321 x0 = some b3 ∧ (cA S_2 b3 12 ∧ (k_Jx4a65c_get_915e3 (fun r_4 S_4 => 
  cA S_4 r_4 2 ∧ (cA S_4 r_4 2 ∧ ((∃ b5 : Nat, cr S_4 64 r_4 = some b5 ∧ (((¬ b5 = x1 →
    ∀ x2_6 : Int32, x2_6 = x2 + nI 1 → R2 x0 x1 x2_6 S_4) ∧
   (b5 = x1 →
    Q x2 S_4))))))) dp b3 x2 S_2))))))) dp b1 S))))
def k_X10_placeOf_2L (Q : Int32 → cS → Prop) (dp : Nat)  (x0 : Nat) (x1 : Nat) (x2 : Int32) (S : cS) : Prop :=
  lfp (X := Nat × Nat × Int32 × cS) (fun P y => k_X10_placeOf_2 Q dp  (fun b0 b1 b2 S => P (b0, b1, b2, S)) y.1 y.2.1 y.2.2.1 y.2.2.2) (x0, x1, x2, S)
def k_X10_placeOf (Q : Int32 → cS → Prop) (dp : Nat) (x0 : Nat) (x1 : Nat) (S : cS) : Prop :=
k_X10_placeOf_2L Q dp  x0 x1 (((nI 0))) S
section S_X10_placeOf
variable {p : Program} {l : Launch} {e : Env} {s : State} {m : MethodId} {args : Array Value} {below : List Frame} {meth : Method} {c : Code} {A : Nat → Prop} {D : va_G} {Y : cY} {tp dp : Nat}
set_option maxRecDepth 20000 in
theorem tb_X10_placeOf_2 (C : cC p s m args meth c cX10_placeOf 3 (some .int) A D Y tp dp RX10) {post : Int32 → cS → Prop} {R2 : Nat → Nat → Int32 → cS → Prop} (hR2 : ∀ (x0 : Nat) (x1 : Nat) (x2 : Int32) (S : cS), R2 x0 x1 x2 S → cG p l e (cRm 3 0 0 64) s m args below meth c A D Y 3 (MQ below (cQi post D Y A) args s 0 0 A) 0 0 2 [(0, .ref x0), (1, .ref x1), (2, .int x2)] [] S) (x0 : Nat) (x1 : Nat) (x2 : Int32) (S : cS) (h : k_X10_placeOf_2 post dp R2 x0 x1 x2 S) : cG p l e (cRm 3 0 0 64) s m args below meth c A D Y 3 (MQ below (cQi post D Y A) args s 0 0 A) 0 0 2 [(0, .ref x0), (1, .ref x1), (2, .int x2)] [] S := by
  unfold k_X10_placeOf_2 at h
  refine cg_iload_n C (i := 2) rfl 2 rfl dX10_placeOf_2 ?_
  refine cg_aload_n C (i := 0) rfl 0 rfl dX10_placeOf_3 ?_
  obtain ⟨hc_4, h⟩ := h
  obtain ⟨b1, hb_b1, h⟩ := h
  refine cg_get C (k := 10) (j := 1) (.ref b1) hc_4.1 hc_4.2 (by decide) rfl (by decide) rfl (show cV _ 10 1 x0 = _ from congrArg va_rf hb_b1) cWs_wsX100 cl_X10_12 rfl dX10_placeOf_4 ?_
  obtain ⟨hc_7, h⟩ := h
  refine cg_calli C (t_Jx4a65c_size_8abf5 l b1 S dp h) cc_X10_22 hc_7.1 hc_7.2 (by decide) rfl rfl ⟨by decide, by decide⟩ ⟨by decide, by decide⟩ rfl (Nat.le_of_ble_eq_true rfl) dX10_placeOf_7 (fun r_2 S_2 h => ?_)
  refine cg_icmp_ge C 39 (by decide) dX10_placeOf_10 (fun c_ => ?_) (fun c_ => ?_)
  · have h := h.1 c_
    refine cg_iconst C (x := (-1)) rfl dX10_placeOf_39 ?_
    exact cg_iret C h dX10_placeOf_40 (by decide) (by decide)
  · have h := h.2 c_
    refine cg_aload_n C (i := 0) rfl 0 rfl dX10_placeOf_13 ?_
    obtain ⟨hc_14, h⟩ := h
    obtain ⟨b3, hb_b3, h⟩ := h
    refine cg_get C (k := 10) (j := 1) (.ref b3) hc_14.1 hc_14.2 (by decide) rfl (by decide) rfl (show cV _ 10 1 x0 = _ from congrArg va_rf hb_b3) cWs_wsX100 cl_X10_12 rfl dX10_placeOf_14 ?_
    refine cg_iload_n C (i := 2) rfl 2 rfl dX10_placeOf_17 ?_
    obtain ⟨hc_18, h⟩ := h
    refine cg_callr C (t_Jx4a65c_get_915e3 l b3 x2 S_2 dp h) cc_X10_26 hc_18.1 hc_18.2 (by decide) rfl rfl ⟨by decide, by decide⟩ ⟨by decide, by decide⟩ rfl (Nat.le_of_ble_eq_true rfl) dX10_placeOf_18 (fun r_4 S_4 h => ?_)
    obtain ⟨hc_21, h⟩ := h
    refine cg_ccast C (k := 2) hc_21.1 hc_21.2 (by decide) rfl cnc_X10_30 dX10_placeOf_21 ?_
    obtain ⟨hc_24, h⟩ := h
    obtain ⟨b5, hb_b5, h⟩ := h
    refine cg_get C (k := 2) (j := 0) (.ref b5) hc_24.1 hc_24.2 (by decide) rfl (by decide) rfl (show cV _ 2 0 r_4 = _ from congrArg va_rf hb_b5) cWs_wsX20 cl_X10_36 rfl dX10_placeOf_24 ?_
    refine cg_aload_n C (i := 1) rfl 1 rfl dX10_placeOf_27 ?_
    refine cg_acmp_ne C 33 (by decide) dX10_placeOf_28 (fun c_ => ?_) (fun c_ => ?_)
    · have h := h.1 c_
      obtain ⟨x2_6, e_x2_6⟩ : ∃ z : Int32, z = x2 + nI 1 := ⟨_, rfl⟩
      have h := h x2_6 e_x2_6
      refine cg_iinc C (lv' := [(2, .int x2_6), (0, .ref x0), (1, .ref x1)]) 2 rfl (by rw [e_x2_6]; rfl) (Nat.le_of_ble_eq_true rfl) rfl dX10_placeOf_33 ?_
      refine cg_goto C 2 (by decide) dX10_placeOf_36 ?_
      exact cg_sub [1, 2, 0] rfl (hR2 x0 x1 x2_6 S_4 h)
    · have h := h.2 c_
      refine cg_iload_n C (i := 2) rfl 2 rfl dX10_placeOf_31 ?_
      exact cg_iret C h dX10_placeOf_32 (by decide) (by decide)
set_option maxRecDepth 20000 in
theorem tl_X10_placeOf_2 (C : cC p s m args meth c cX10_placeOf 3 (some .int) A D Y tp dp RX10) {post : Int32 → cS → Prop}   (x0 : Nat) (x1 : Nat) (x2 : Int32) (S : cS) (h : k_X10_placeOf_2L post dp  x0 x1 x2 S) : cG p l e (cRm 3 0 0 64) s m args below meth c A D Y 3 (MQ below (cQi post D Y A) args s 0 0 A) 0 0 2 [(0, .ref x0), (1, .ref x1), (2, .int x2)] [] S :=
  h (fun y => cG p l e (cRm 3 0 0 64) s m args below meth c A D Y 3 (MQ below (cQi post D Y A) args s 0 0 A) 0 0 2 [(0, .ref (y.1)), (1, .ref (y.2.1)), (2, .int (y.2.2.1))] [] (y.2.2.2)) (fun y hy => tb_X10_placeOf_2 C   (fun b0 b1 b2 S z => z) (y.1) (y.2.1) (y.2.2.1) (y.2.2.2) hy)
end S_X10_placeOf
set_option maxHeartbeats 1000000 in
set_option maxRecDepth 20000 in
theorem t_X10_placeOf (l : Launch) (x0 : Nat) (x1 : Nat) (S : cS) (dp : Nat) {P : Int32 → cS → Prop} (h : k_X10_placeOf P dp x0 x1 S) : cMet (cQi P) l yX10_placeOf cX10_placeOf 3 (some .int) 3 0 0 64 [.ref x0, .ref x1] S dp := by
  intro D Y tp sz
  refine cg_body (by decide +kernel) (Nat.le_of_ble_eq_true rfl) ?_
  intro p e s m args below meth c C
  generalize va_A (cWd Y S) sz = A at C ⊢
  have C : cC p s m args meth c cX10_placeOf 3 (some .int) A D Y tp dp RX10 := C
  refine cg_lv (lv' := [(0, .ref x0), (1, .ref x1)]) rfl ?_
  unfold k_X10_placeOf at h
  refine cg_iconst C (x := nI 0) rfl dX10_placeOf_0 ?_
  refine cg_istore_n C (i := 2) (lv' := [(2, .int ((nI 0))), (0, .ref x0), (1, .ref x1)]) rfl (Nat.le_of_ble_eq_true rfl) rfl dX10_placeOf_1 ?_
  exact cg_sub [1, 2, 0] rfl (tl_X10_placeOf_2 C   x0 x1 (((nI 0))) S h)
def k_Jx4a65c_fastRemove_b59b0_34 (Q : cS → Prop) (dp : Nat)  (x0 : Nat) (x1 : Nat) (x3 : Int32) (S : cS) : Prop :=
((x1 = dp →
  cA S x0 12 ∧ (∀ S3 : cS, S3 = cSi S 386 x0 x3 → False)) ∧
 (¬ x1 = dp →
  cA S x0 12 ∧ (∀ S4 : cS, S4 = cSi S 386 x0 x3 → cX S4 x1 17 x3 ∧ (∀ S5 : cS, S5 = cSO S4 x1 (x3).toNatClampNeg none → Q S5))))
def k_Jx4a65c_fastRemove_b59b0 (Q : cS → Prop) (dp : Nat) (x0 : Nat) (x1 : Nat) (x2 : Int32) (S : cS) : Prop :=
((x1 = dp →
  cA S x0 12 ∧ (cA S x0 12 ∧ (∀ S1 : cS, S1 = cSi S 384 x0 ((((ci S 384 x0)) + ((nI 1)))) → cA S1 x0 12 ∧ (∀ x3_2 : Int32, x3_2 = (((ci S1 386 x0)) - ((nI 1))) → ((((((ci S1 386 x0)) - ((nI 1)))) ≤ x2 →
    k_Jx4a65c_fastRemove_b59b0_34 Q dp  x0 dp x3_2 S1) ∧
   (¬ ((((ci S1 386 x0)) - ((nI 1)))) ≤ x2 →
    cCp S1 17 dp ((x2 + ((nI 1)))) dp x2 ((x3_2 - x2)) ∧ (∀ S6 : cS, S6 = cCpyO S1 dp ((x2 + ((nI 1)))).toNatClampNeg dp (x2).toNatClampNeg ((x3_2 - x2)).toNatClampNeg → k_Jx4a65c_fastRemove_b59b0_34 Q dp  x0 dp x3_2 S6))))))) ∧
 (¬ x1 = dp →
  cA S x0 12 ∧ (cA S x0 12 ∧ (∀ S7 : cS, S7 = cSi S 384 x0 ((((ci S 384 x0)) + ((nI 1)))) → cA S7 x0 12 ∧ (∀ x3_8 : Int32, x3_8 = (((ci S7 386 x0)) - ((nI 1))) → ((((((ci S7 386 x0)) - ((nI 1)))) ≤ x2 →
    k_Jx4a65c_fastRemove_b59b0_34 Q dp  x0 x1 x3_8 S7) ∧
   (¬ ((((ci S7 386 x0)) - ((nI 1)))) ≤ x2 →
    cCp S7 17 x1 ((x2 + ((nI 1)))) x1 x2 ((x3_8 - x2)) ∧ (∀ S9 : cS, S9 = cCpyO S7 x1 ((x2 + ((nI 1)))).toNatClampNeg x1 (x2).toNatClampNeg ((x3_8 - x2)).toNatClampNeg → k_Jx4a65c_fastRemove_b59b0_34 Q dp  x0 x1 x3_8 S9))))))))
section S_Jx4a65c_fastRemove_b59b0
variable {p : Program} {l : Launch} {e : Env} {s : State} {m : MethodId} {args : Array Value} {below : List Frame} {meth : Method} {c : Code} {A : Nat → Prop} {D : va_G} {Y : cY} {tp dp : Nat}
set_option maxRecDepth 20000 in
theorem tb_Jx4a65c_fastRemove_b59b0_34 (C : cC p s m args meth c cJx4a65c_fastRemove_b59b0 4 none A D Y tp dp RJx4a65c) {post : cS → Prop}   (x0 : Nat) (x1 : Nat) (x3 : Int32) (S : cS) (h : k_Jx4a65c_fastRemove_b59b0_34 post dp  x0 x1 x3 S) : cG p l e (cRm 1 0 0 18) s m args below meth c A D Y 4 (MQ below (cQv post D Y A) args s 0 0 A) 0 0 34 [(0, .ref x0), (1, .ref x1), (3, .int x3)] [] S := by
  unfold k_Jx4a65c_fastRemove_b59b0_34 at h
  by_cases hd : x1 = dp
  · have h := h.1 hd
    refine cg_lv (lv' := [(0, .ref x0), (1, .ref dp), (3, .int x3)]) (by rw [hd]) ?_
    refine cg_st (st' := []) (by first | rfl | rw [hd]) ?_
    refine cg_aload_n C (i := 1) rfl 1 rfl dJx4a65c_fastRemove_b59b0_34 ?_
    refine cg_aload_n C (i := 0) rfl 0 rfl dJx4a65c_fastRemove_b59b0_35 ?_
    refine cg_iload_n C (i := 3) rfl 2 rfl dJx4a65c_fastRemove_b59b0_36 ?_
    refine cg_dup_x1 C rfl rfl dJx4a65c_fastRemove_b59b0_37 ?_
    obtain ⟨hc_38, h⟩ := h
    refine cg_puti C (k := 12) (j := 2) (ty := tyJx4a65c) (fty := .int) hc_38.1 hc_38.2 (by decide) rfl (by decide) rfl (by decide) rfl cWs_wsJx4a65c0 tyJx4a65c_ok nmJx4a65c cl_Jx4a65c_48 rfl rfl rfl rfl rfl dJx4a65c_fastRemove_b59b0_38 ?_
    refine cg_nm (fun S3 e_S3 => ?_)
    have h := h S3 e_S3
    refine cg_null C dJx4a65c_fastRemove_b59b0_41 ?_
    exact h.elim
  · have h := h.2 hd
    refine cg_aload_n C (i := 1) rfl 1 rfl dJx4a65c_fastRemove_b59b0_34 ?_
    refine cg_aload_n C (i := 0) rfl 0 rfl dJx4a65c_fastRemove_b59b0_35 ?_
    refine cg_iload_n C (i := 3) rfl 2 rfl dJx4a65c_fastRemove_b59b0_36 ?_
    refine cg_dup_x1 C rfl rfl dJx4a65c_fastRemove_b59b0_37 ?_
    obtain ⟨hc_38, h⟩ := h
    refine cg_puti C (k := 12) (j := 2) (ty := tyJx4a65c) (fty := .int) hc_38.1 hc_38.2 (by decide) rfl (by decide) rfl (by decide) rfl cWs_wsJx4a65c0 tyJx4a65c_ok nmJx4a65c cl_Jx4a65c_48 rfl rfl rfl rfl rfl dJx4a65c_fastRemove_b59b0_38 ?_
    refine cg_nm (fun S4 e_S4 => ?_)
    have h := h S4 e_S4
    refine cg_null C dJx4a65c_fastRemove_b59b0_41 ?_
    obtain ⟨hc_42, h⟩ := h
    refine cg_aastoreN C hc_42 dJx4a65c_fastRemove_b59b0_42 ?_
    refine cg_nm (fun S5 e_S5 => ?_)
    have h := h S5 e_S5
    exact cg_vret C h dJx4a65c_fastRemove_b59b0_43 (by decide) (by decide)
end S_Jx4a65c_fastRemove_b59b0
set_option maxHeartbeats 1000000 in
set_option maxRecDepth 20000 in
theorem t_Jx4a65c_fastRemove_b59b0 (l : Launch) (x0 : Nat) (x1 : Nat) (x2 : Int32) (S : cS) (dp : Nat) {P : cS → Prop} (h : k_Jx4a65c_fastRemove_b59b0 P dp x0 x1 x2 S) : cMet (cQv P) l yJx4a65c_fastRemove_b59b0 cJx4a65c_fastRemove_b59b0 4 none 1 0 0 18 [.ref x0, .ref x1, .int x2] S dp := by
  intro D Y tp sz
  refine cg_body (by decide +kernel) (Nat.le_of_ble_eq_true rfl) ?_
  intro p e s m args below meth c C
  generalize va_A (cWd Y S) sz = A at C ⊢
  have C : cC p s m args meth c cJx4a65c_fastRemove_b59b0 4 none A D Y tp dp RJx4a65c := C
  refine cg_lv (lv' := [(0, .ref x0), (1, .ref x1), (2, .int x2)]) rfl ?_
  unfold k_Jx4a65c_fastRemove_b59b0 at h
  by_cases hd : x1 = dp
  · have h := h.1 hd
    refine cg_lv (lv' := [(0, .ref x0), (1, .ref dp), (2, .int x2)]) (by rw [hd]) ?_
    refine cg_st (st' := []) (by first | rfl | rw [hd]) ?_
    refine cg_aload_n C (i := 0) rfl 0 rfl dJx4a65c_fastRemove_b59b0_0 ?_
    refine cg_dup C rfl dJx4a65c_fastRemove_b59b0_1 ?_
    obtain ⟨hc_2, h⟩ := h
    refine cg_getS C (k := 12) (j := 0) (.int (ci S 384 x0)) hc_2.1 hc_2.2 (by decide) rfl (by decide) rfl rfl cWs_wsJx4a65c0 cl_mod12 (Or.inr csf_mod) dJx4a65c_fastRemove_b59b0_2 ?_
    refine cg_iconst C (x := nI 1) rfl dJx4a65c_fastRemove_b59b0_5 ?_
    refine cg_iadd C dJx4a65c_fastRemove_b59b0_6 ?_
    obtain ⟨hc_7, h⟩ := h
    refine cg_putiS C (k := 12) (j := 0) (ty := tyJx4a65c) (fty := .int) hc_7.1 hc_7.2 (by decide) rfl (by decide) rfl (by decide) rfl cWs_wsJx4a65c0 tyJx4a65c_ok nmJx4a65c cl_mod12 (Or.inr csf_mod) rfl rfl rfl rfl dJx4a65c_fastRemove_b59b0_7 ?_
    refine cg_nm (fun S1 e_S1 => ?_)
    have h := h S1 e_S1
    refine cg_aload_n C (i := 0) rfl 0 rfl dJx4a65c_fastRemove_b59b0_10 ?_
    obtain ⟨hc_11, h⟩ := h
    refine cg_get C (k := 12) (j := 2) (.int (ci S1 386 x0)) hc_11.1 hc_11.2 (by decide) rfl (by decide) rfl rfl cWs_wsJx4a65c0 cl_Jx4a65c_48 rfl dJx4a65c_fastRemove_b59b0_11 ?_
    refine cg_iconst C (x := nI 1) rfl dJx4a65c_fastRemove_b59b0_14 ?_
    refine cg_isub C dJx4a65c_fastRemove_b59b0_15 ?_
    refine cg_dup C rfl dJx4a65c_fastRemove_b59b0_16 ?_
    refine cg_nmI (fun x3_2 e_x3_2 => ?_)
    have h := h x3_2 e_x3_2
    refine cg_istore_n C (i := 3) (lv' := [(3, .int x3_2), (0, .ref x0), (1, .ref dp), (2, .int x2)]) rfl (Nat.le_of_ble_eq_true rfl) rfl dJx4a65c_fastRemove_b59b0_17 ?_
    refine cg_iload_n C (i := 2) rfl 3 rfl dJx4a65c_fastRemove_b59b0_18 ?_
    refine cg_icmp_le C 34 (by decide) dJx4a65c_fastRemove_b59b0_19 (fun c_ => ?_) (fun c_ => ?_)
    · have h := h.1 c_
      exact cg_sub [1, 2, 0] rfl (tb_Jx4a65c_fastRemove_b59b0_34 C   x0 dp x3_2 S1 h)
    · have h := h.2 c_
      refine cg_aload_n C (i := 1) rfl 2 rfl dJx4a65c_fastRemove_b59b0_22 ?_
      refine cg_iload_n C (i := 2) rfl 3 rfl dJx4a65c_fastRemove_b59b0_23 ?_
      refine cg_iconst C (x := nI 1) rfl dJx4a65c_fastRemove_b59b0_24 ?_
      refine cg_iadd C dJx4a65c_fastRemove_b59b0_25 ?_
      refine cg_aload_n C (i := 1) rfl 2 rfl dJx4a65c_fastRemove_b59b0_26 ?_
      refine cg_iload_n C (i := 2) rfl 3 rfl dJx4a65c_fastRemove_b59b0_27 ?_
      refine cg_iload_n C (i := 3) rfl 0 rfl dJx4a65c_fastRemove_b59b0_28 ?_
      refine cg_iload_n C (i := 2) rfl 3 rfl dJx4a65c_fastRemove_b59b0_29 ?_
      refine cg_isub C dJx4a65c_fastRemove_b59b0_30 ?_
      obtain ⟨hc_31, h⟩ := h
      refine cg_copy17 C hc_31 cac_Jx4a65c_112 (Nat.le_of_ble_eq_true rfl) (Nat.le_of_ble_eq_true rfl) dJx4a65c_fastRemove_b59b0_31 ?_
      refine cg_nm (fun S6 e_S6 => ?_)
      have h := h S6 e_S6
      exact cg_sub [1, 2, 0] rfl (tb_Jx4a65c_fastRemove_b59b0_34 C   x0 dp x3_2 S6 h)
  · have h := h.2 hd
    refine cg_aload_n C (i := 0) rfl 0 rfl dJx4a65c_fastRemove_b59b0_0 ?_
    refine cg_dup C rfl dJx4a65c_fastRemove_b59b0_1 ?_
    obtain ⟨hc_2, h⟩ := h
    refine cg_getS C (k := 12) (j := 0) (.int (ci S 384 x0)) hc_2.1 hc_2.2 (by decide) rfl (by decide) rfl rfl cWs_wsJx4a65c0 cl_mod12 (Or.inr csf_mod) dJx4a65c_fastRemove_b59b0_2 ?_
    refine cg_iconst C (x := nI 1) rfl dJx4a65c_fastRemove_b59b0_5 ?_
    refine cg_iadd C dJx4a65c_fastRemove_b59b0_6 ?_
    obtain ⟨hc_7, h⟩ := h
    refine cg_putiS C (k := 12) (j := 0) (ty := tyJx4a65c) (fty := .int) hc_7.1 hc_7.2 (by decide) rfl (by decide) rfl (by decide) rfl cWs_wsJx4a65c0 tyJx4a65c_ok nmJx4a65c cl_mod12 (Or.inr csf_mod) rfl rfl rfl rfl dJx4a65c_fastRemove_b59b0_7 ?_
    refine cg_nm (fun S7 e_S7 => ?_)
    have h := h S7 e_S7
    refine cg_aload_n C (i := 0) rfl 0 rfl dJx4a65c_fastRemove_b59b0_10 ?_
    obtain ⟨hc_11, h⟩ := h
    refine cg_get C (k := 12) (j := 2) (.int (ci S7 386 x0)) hc_11.1 hc_11.2 (by decide) rfl (by decide) rfl rfl cWs_wsJx4a65c0 cl_Jx4a65c_48 rfl dJx4a65c_fastRemove_b59b0_11 ?_
    refine cg_iconst C (x := nI 1) rfl dJx4a65c_fastRemove_b59b0_14 ?_
    refine cg_isub C dJx4a65c_fastRemove_b59b0_15 ?_
    refine cg_dup C rfl dJx4a65c_fastRemove_b59b0_16 ?_
    refine cg_nmI (fun x3_8 e_x3_8 => ?_)
    have h := h x3_8 e_x3_8
    refine cg_istore_n C (i := 3) (lv' := [(3, .int x3_8), (0, .ref x0), (1, .ref x1), (2, .int x2)]) rfl (Nat.le_of_ble_eq_true rfl) rfl dJx4a65c_fastRemove_b59b0_17 ?_
    refine cg_iload_n C (i := 2) rfl 3 rfl dJx4a65c_fastRemove_b59b0_18 ?_
    refine cg_icmp_le C 34 (by decide) dJx4a65c_fastRemove_b59b0_19 (fun c_ => ?_) (fun c_ => ?_)
    · have h := h.1 c_
      exact cg_sub [1, 2, 0] rfl (tb_Jx4a65c_fastRemove_b59b0_34 C   x0 x1 x3_8 S7 h)
    · have h := h.2 c_
      refine cg_aload_n C (i := 1) rfl 2 rfl dJx4a65c_fastRemove_b59b0_22 ?_
      refine cg_iload_n C (i := 2) rfl 3 rfl dJx4a65c_fastRemove_b59b0_23 ?_
      refine cg_iconst C (x := nI 1) rfl dJx4a65c_fastRemove_b59b0_24 ?_
      refine cg_iadd C dJx4a65c_fastRemove_b59b0_25 ?_
      refine cg_aload_n C (i := 1) rfl 2 rfl dJx4a65c_fastRemove_b59b0_26 ?_
      refine cg_iload_n C (i := 2) rfl 3 rfl dJx4a65c_fastRemove_b59b0_27 ?_
      refine cg_iload_n C (i := 3) rfl 0 rfl dJx4a65c_fastRemove_b59b0_28 ?_
      refine cg_iload_n C (i := 2) rfl 3 rfl dJx4a65c_fastRemove_b59b0_29 ?_
      refine cg_isub C dJx4a65c_fastRemove_b59b0_30 ?_
      obtain ⟨hc_31, h⟩ := h
      refine cg_copy17 C hc_31 cac_Jx4a65c_112 (Nat.le_of_ble_eq_true rfl) (Nat.le_of_ble_eq_true rfl) dJx4a65c_fastRemove_b59b0_31 ?_
      refine cg_nm (fun S9 e_S9 => ?_)
      have h := h S9 e_S9
      exact cg_sub [1, 2, 0] rfl (tb_Jx4a65c_fastRemove_b59b0_34 C   x0 x1 x3_8 S9 h)
def k_Jx4a65c_remove_915e3 (Q : Nat → cS → Prop) (dp : Nat) (x0 : Nat) (x1 : Int32) (S : cS) : Prop :=
cA S x0 12 ∧ (k_J15_checkIndex_7cf53 (fun r_1 S_1 => 
cA S_1 x0 12 ∧ ((∃ b2 : Nat, cr S_1 385 x0 = some b2 ∧ (((b2 = dp →
  False) ∧
 (¬ b2 = dp →
  cX S_1 b2 17 x1 ∧ ((∃ b3 : Nat, cO S_1 b2 (x1).toNatClampNeg = some b3 ∧ (cA S_1 x0 12 ∧ (k_Jx4a65c_fastRemove_b59b0 (fun S_4 => 
  Q b3 S_4) dp x0 b2 x1 S_1)))))))))) dp x1 ((ci S 386 x0)) S)
set_option maxHeartbeats 1000000 in
set_option maxRecDepth 20000 in
theorem t_Jx4a65c_remove_915e3 (l : Launch) (x0 : Nat) (x1 : Int32) (S : cS) (dp : Nat) {P : Nat → cS → Prop} (h : k_Jx4a65c_remove_915e3 P dp x0 x1 S) : cMet (cQr P) l yJx4a65c_remove_915e3 cJx4a65c_remove_915e3 4 (some (.object "java/lang/Object")) 2 0 0 43 [.ref x0, .int x1] S dp := by
  intro D Y tp sz
  refine cg_body (by decide +kernel) (Nat.le_of_ble_eq_true rfl) ?_
  intro p e s m args below meth c C
  generalize va_A (cWd Y S) sz = A at C ⊢
  have C : cC p s m args meth c cJx4a65c_remove_915e3 4 (some (.object "java/lang/Object")) A D Y tp dp RJx4a65c := C
  refine cg_lv (lv' := [(0, .ref x0), (1, .int x1)]) rfl ?_
  unfold k_Jx4a65c_remove_915e3 at h
  refine cg_iload_n C (i := 1) rfl 1 rfl dJx4a65c_remove_915e3_0 ?_
  refine cg_aload_n C (i := 0) rfl 0 rfl dJx4a65c_remove_915e3_1 ?_
  obtain ⟨hc_2, h⟩ := h
  refine cg_get C (k := 12) (j := 2) (.int (ci S 386 x0)) hc_2.1 hc_2.2 (by decide) rfl (by decide) rfl rfl cWs_wsJx4a65c0 cl_Jx4a65c_48 rfl dJx4a65c_remove_915e3_2 ?_
  refine cg_callsi C (t_J15_checkIndex_7cf53 l x1 ((ci S 386 x0)) S dp h) cc_Jx4a65c_118 rfl ⟨by decide, by decide⟩ ⟨by decide, by decide⟩ rfl (Nat.le_of_ble_eq_true rfl) dJx4a65c_remove_915e3_5 (fun r_1 S_1 h => ?_)
  refine cg_pop C rfl dJx4a65c_remove_915e3_8 ?_
  refine cg_aload_n C (i := 0) rfl 0 rfl dJx4a65c_remove_915e3_9 ?_
  obtain ⟨hc_10, h⟩ := h
  obtain ⟨b2, hb_b2, h⟩ := h
  by_cases hd : b2 = dp
  · have h := h.1 hd
    refine cg_get C (k := 12) (j := 1) (.ref dp) hc_10.1 hc_10.2 (by decide) rfl (by decide) rfl (show cV _ 12 1 x0 = _ from congrArg va_rf (hb_b2.trans (congrArg some hd))) cWs_wsJx4a65c0 cl_Jx4a65c_9 rfl dJx4a65c_remove_915e3_10 ?_
    refine cg_astore_n (lv' := [(2, .ref dp), (0, .ref x0), (1, .int x1)]) C (i := 2) rfl (Nat.le_of_ble_eq_true rfl) rfl dJx4a65c_remove_915e3_13 ?_
    refine cg_aload_n C (i := 2) rfl 0 rfl dJx4a65c_remove_915e3_14 ?_
    refine cg_iload_n C (i := 1) rfl 2 rfl dJx4a65c_remove_915e3_15 ?_
    exact h.elim
  · have h := h.2 hd
    refine cg_get C (k := 12) (j := 1) (.ref b2) hc_10.1 hc_10.2 (by decide) rfl (by decide) rfl (show cV _ 12 1 x0 = _ from congrArg va_rf (hb_b2)) cWs_wsJx4a65c0 cl_Jx4a65c_9 rfl dJx4a65c_remove_915e3_10 ?_
    refine cg_astore_n (lv' := [(2, .ref b2), (0, .ref x0), (1, .int x1)]) C (i := 2) rfl (Nat.le_of_ble_eq_true rfl) rfl dJx4a65c_remove_915e3_13 ?_
    refine cg_aload_n C (i := 2) rfl 0 rfl dJx4a65c_remove_915e3_14 ?_
    refine cg_iload_n C (i := 1) rfl 2 rfl dJx4a65c_remove_915e3_15 ?_
    obtain ⟨hc_16, h⟩ := h
    obtain ⟨b3, hb_b3, h⟩ := h
    refine cg_aaloadR C hc_16 hb_b3 dJx4a65c_remove_915e3_16 ?_
    refine cg_astore_n (lv' := [(3, .ref b3), (2, .ref b2), (0, .ref x0), (1, .int x1)]) C (i := 3) rfl (Nat.le_of_ble_eq_true rfl) rfl dJx4a65c_remove_915e3_17 ?_
    refine cg_aload_n C (i := 0) rfl 2 rfl dJx4a65c_remove_915e3_18 ?_
    refine cg_aload_n C (i := 2) rfl 1 rfl dJx4a65c_remove_915e3_19 ?_
    refine cg_iload_n C (i := 1) rfl 3 rfl dJx4a65c_remove_915e3_20 ?_
    obtain ⟨hc_21, h⟩ := h
    refine cg_callv C (t_Jx4a65c_fastRemove_b59b0 l x0 b2 x1 S_1 dp h) cc_Jx4a65c_144 hc_21.1 hc_21.2 (by decide) rfl rfl ⟨by decide, by decide⟩ ⟨by decide, by decide⟩ rfl (Nat.le_of_ble_eq_true rfl) dJx4a65c_remove_915e3_21 (fun S_4 h => ?_)
    refine cg_aload_n C (i := 3) rfl 0 rfl dJx4a65c_remove_915e3_24 ?_
    exact cg_aret C rfl (by first | exact Or.inl ⟨_, rfl⟩ | exact Or.inr ⟨_, rfl⟩) h dJx4a65c_remove_915e3_25 (by decide) (by decide)
def k_X10_takeOut_93 (Q : Int32 → cS → Prop) (dp : Nat) (mc ms : Nat) (R12 : Nat → Nat → Nat → Nat → Int32 → Int32 → Nat → Nat → cS → Prop) (x0 : Nat) (x1 : Nat) (x2 : Nat) (x3 : Nat) (x4 : Int32) (x5 : Int32) (cd dd : Nat) (S : cS) : Prop :=
∀ x5_9 : Int32, x5_9 = x5 + nI 1 → R12 x0 x1 x2 x3 x4 x5_9 cd dd S
def k_X10_takeOut_12 (Q : Int32 → cS → Prop) (dp : Nat) (mc ms : Nat) (R12 : Nat → Nat → Nat → Nat → Int32 → Int32 → Nat → Nat → cS → Prop) (x0 : Nat) (x1 : Nat) (x2 : Nat) (x3 : Nat) (x4 : Int32) (x5 : Int32) (cd dd : Nat) (S : cS) : Prop :=
cA S x1 10 ∧ ((∃ b3 : Nat, cr S 321 x1 = some b3 ∧ (cA S b3 12 ∧ ((cd ≤ mc ∧ dd ≤ ms) ∧ (k_Jx4a65c_size_8abf5 (fun r_4 S_4 => 
((r_4 ≤ x5 →
  (cd ≤ mc ∧ dd ≤ ms) ∧ (Q x4 S_4)) ∧
 (¬ r_4 ≤ x5 →
  cA S_4 x1 10 ∧ ((∃ b5 : Nat, cr S_4 321 x1 = some b5 ∧ (cA S_4 b5 12 ∧ ((cd ≤ mc ∧ dd ≤ ms) ∧ (k_Jx4a65c_get_915e3 (fun r_6 S_6 => 
  cA S_6 r_6 2 ∧ (cA S_6 r_6 2 ∧ ((∃ b7 : Nat, cr S_6 64 r_6 = some b7 ∧ (cA S_6 x0 10 ∧ ((cd ≤ mc ∧ dd ≤ ms) ∧ (k_X10_placeOf (fun r_8 S_8 => 
  ((r_8 = (((-1))) →
    k_X10_takeOut_93 Q dp mc ms R12 x0 x1 x2 x3 x4 x5 cd dd S_8) ∧
   (¬ r_8 = (((-1))) →
    cA S_8 x0 10 ∧ ((∃ b10 : Nat, cr S_8 321 x0 = some b10 ∧ (cA S_8 b10 12 ∧ ((cd ≤ mc ∧ dd ≤ ms) ∧ (k_Jx4a65c_get_915e3 (fun r_11 S_11 => 
    cA S_11 r_11 2 ∧ (cA S_11 r_6 2 ∧ ((∃ mc12 ms13 : Nat, cd + mc12 ≤ mc ∧ dd + ms13 ≤ ms ∧ (k_X2_gather (fun S_14 => 
    cA S_14 x0 10 ∧ ((∃ b15 : Nat, cr S_14 321 x0 = some b15 ∧ (cA S_14 b15 12 ∧ ((cd + mc12 ≤ mc ∧ dd + ms13 ≤ ms) ∧ (k_Jx4a65c_remove_915e3 (fun r_16 S_16 => 
    (cd + mc12 ≤ mc ∧ dd + ms13 ≤ ms) ∧ (∀ x4_17 : Int32, x4_17 = (if r_8 < x4 then r_8 else x4) → k_X10_takeOut_93 Q dp mc ms R12 x0 x1 x2 x3 x4_17 x5 (cd + mc12) (dd + ms13) S_16)) dp b15 r_8 S_14)))))) dp mc12 ms13 r_6 r_11 x2 x3 S_11))))) dp b10 r_8 S_8)))))))) dp x0 b7 S_6))))))) dp b5 x5 S_4)))))))) dp b3 S)))))
def k_X10_takeOut_12L (Q : Int32 → cS → Prop) (dp : Nat) (mc ms : Nat)  (x0 : Nat) (x1 : Nat) (x2 : Nat) (x3 : Nat) (x4 : Int32) (x5 : Int32) (cd dd : Nat) (S : cS) : Prop :=
  lfp (X := Nat × Nat × Nat × Nat × Int32 × Int32 × Nat × Nat × cS) (fun P y => k_X10_takeOut_12 Q dp mc ms  (fun b0 b1 b2 b3 b4 b5 b6 b7 S => P (b0, b1, b2, b3, b4, b5, b6, b7, S)) y.1 y.2.1 y.2.2.1 y.2.2.2.1 y.2.2.2.2.1 y.2.2.2.2.2.1 y.2.2.2.2.2.2.1 y.2.2.2.2.2.2.2.1 y.2.2.2.2.2.2.2.2) (x0, x1, x2, x3, x4, x5, cd, dd, S)
def k_X10_takeOut (Q : Int32 → cS → Prop) (dp : Nat) (mc ms : Nat) (x0 : Nat) (x1 : Nat) (x2 : Nat) (x3 : Nat) (S : cS) : Prop :=
cA S x0 10 ∧ ((∃ b1 : Nat, cr S 321 x0 = some b1 ∧ (cA S b1 12 ∧ ((0 ≤ mc ∧ 0 ≤ ms) ∧ (k_Jx4a65c_size_8abf5 (fun r_2 S_2 => 
k_X10_takeOut_12L Q dp mc ms  x0 x1 x2 x3 r_2 (((nI 0))) 0 0 S_2) dp b1 S)))))
section S_X10_takeOut
variable {p : Program} {l : Launch} {e : Env} {s : State} {m : MethodId} {args : Array Value} {below : List Frame} {meth : Method} {c : Code} {A : Nat → Prop} {D : va_G} {Y : cY} {tp dp : Nat}
set_option maxRecDepth 20000 in
theorem tb_X10_takeOut_93 {mc ms : Nat} (C : cC p s m args meth c cX10_takeOut 8 (some .int) A D Y tp dp RX10) {post : Int32 → cS → Prop} {R12 : Nat → Nat → Nat → Nat → Int32 → Int32 → Nat → Nat → cS → Prop} (hR12 : ∀ (x0 : Nat) (x1 : Nat) (x2 : Nat) (x3 : Nat) (x4 : Int32) (x5 : Int32) (cd dd : Nat) (S : cS), R12 x0 x1 x2 x3 x4 x5 cd dd S → cG p l e (cRm 9 mc ms 212) s m args below meth c A D Y 8 (MQ below (cQi post D Y A) args s mc ms A) cd dd 12 [(0, .ref x0), (1, .ref x1), (2, .ref x2), (3, .ref x3), (4, .int x4), (5, .int x5)] [] S) (x0 : Nat) (x1 : Nat) (x2 : Nat) (x3 : Nat) (x4 : Int32) (x5 : Int32) (cd dd : Nat) (S : cS) (h : k_X10_takeOut_93 post dp mc ms R12 x0 x1 x2 x3 x4 x5 cd dd S) : cG p l e (cRm 9 mc ms 212) s m args below meth c A D Y 8 (MQ below (cQi post D Y A) args s mc ms A) cd dd 93 [(0, .ref x0), (1, .ref x1), (2, .ref x2), (3, .ref x3), (4, .int x4), (5, .int x5)] [] S := by
  unfold k_X10_takeOut_93 at h
  obtain ⟨x5_9, e_x5_9⟩ : ∃ z : Int32, z = x5 + nI 1 := ⟨_, rfl⟩
  have h := h x5_9 e_x5_9
  refine cg_iinc C (lv' := [(5, .int x5_9), (0, .ref x0), (1, .ref x1), (2, .ref x2), (3, .ref x3), (4, .int x4)]) 5 rfl (by rw [e_x5_9]; rfl) (Nat.le_of_ble_eq_true rfl) rfl dX10_takeOut_93 ?_
  refine cg_goto C 12 (by decide) dX10_takeOut_96 ?_
  exact cg_sub [1, 2, 3, 4, 5, 0] rfl (hR12 x0 x1 x2 x3 x4 x5_9 cd dd S h)
set_option maxRecDepth 20000 in
theorem tb_X10_takeOut_12 {mc ms : Nat} (C : cC p s m args meth c cX10_takeOut 8 (some .int) A D Y tp dp RX10) {post : Int32 → cS → Prop} {R12 : Nat → Nat → Nat → Nat → Int32 → Int32 → Nat → Nat → cS → Prop} (hR12 : ∀ (x0 : Nat) (x1 : Nat) (x2 : Nat) (x3 : Nat) (x4 : Int32) (x5 : Int32) (cd dd : Nat) (S : cS), R12 x0 x1 x2 x3 x4 x5 cd dd S → cG p l e (cRm 9 mc ms 212) s m args below meth c A D Y 8 (MQ below (cQi post D Y A) args s mc ms A) cd dd 12 [(0, .ref x0), (1, .ref x1), (2, .ref x2), (3, .ref x3), (4, .int x4), (5, .int x5)] [] S) (x0 : Nat) (x1 : Nat) (x2 : Nat) (x3 : Nat) (x4 : Int32) (x5 : Int32) (cd dd : Nat) (S : cS) (h : k_X10_takeOut_12 post dp mc ms R12 x0 x1 x2 x3 x4 x5 cd dd S) : cG p l e (cRm 9 mc ms 212) s m args below meth c A D Y 8 (MQ below (cQi post D Y A) args s mc ms A) cd dd 12 [(0, .ref x0), (1, .ref x1), (2, .ref x2), (3, .ref x3), (4, .int x4), (5, .int x5)] [] S := by
  unfold k_X10_takeOut_12 at h
  refine cg_iload C 5 rfl dX10_takeOut_12 ?_
  refine cg_aload_n C (i := 1) rfl 1 rfl dX10_takeOut_14 ?_
  obtain ⟨hc_15, h⟩ := h
  obtain ⟨b3, hb_b3, h⟩ := h
  refine cg_get C (k := 10) (j := 1) (.ref b3) hc_15.1 hc_15.2 (by decide) rfl (by decide) rfl (show cV _ 10 1 x1 = _ from congrArg va_rf hb_b3) cWs_wsX100 cl_X10_12 rfl dX10_takeOut_15 ?_
  obtain ⟨hc_18, h⟩ := h
  obtain ⟨hb_18, h⟩ := h
  refine cg_calli C (t_Jx4a65c_size_8abf5 l b3 S dp h) cc_X10_22 hc_18.1 hc_18.2 (by decide) rfl rfl ⟨by decide, by decide⟩ hb_18 rfl (Nat.le_of_ble_eq_true rfl) dX10_takeOut_18 (fun r_4 S_4 h => ?_)
  simp only [Nat.add_zero]
  refine cg_icmp_ge C 99 (by decide) dX10_takeOut_21 (fun c_ => ?_) (fun c_ => ?_)
  · have h := h.1 c_
    refine cg_iload C 4 rfl dX10_takeOut_99 ?_
    obtain ⟨hb_101, h⟩ := h
    exact cg_iret C h dX10_takeOut_101 hb_101.1 hb_101.2
  · have h := h.2 c_
    refine cg_aload_n C (i := 1) rfl 1 rfl dX10_takeOut_24 ?_
    obtain ⟨hc_25, h⟩ := h
    obtain ⟨b5, hb_b5, h⟩ := h
    refine cg_get C (k := 10) (j := 1) (.ref b5) hc_25.1 hc_25.2 (by decide) rfl (by decide) rfl (show cV _ 10 1 x1 = _ from congrArg va_rf hb_b5) cWs_wsX100 cl_X10_12 rfl dX10_takeOut_25 ?_
    refine cg_iload C 5 rfl dX10_takeOut_28 ?_
    obtain ⟨hc_30, h⟩ := h
    obtain ⟨hb_30, h⟩ := h
    refine cg_callr C (t_Jx4a65c_get_915e3 l b5 x5 S_4 dp h) cc_X10_26 hc_30.1 hc_30.2 (by decide) rfl rfl ⟨by decide, by decide⟩ hb_30 rfl (Nat.le_of_ble_eq_true rfl) dX10_takeOut_30 (fun r_6 S_6 h => ?_)
    simp only [Nat.add_zero]
    obtain ⟨hc_33, h⟩ := h
    refine cg_ccast C (k := 2) hc_33.1 hc_33.2 (by decide) rfl cnc_X10_30 dX10_takeOut_33 ?_
    refine cg_astore (lv' := [(6, .ref r_6), (0, .ref x0), (1, .ref x1), (2, .ref x2), (3, .ref x3), (4, .int x4), (5, .int x5)]) C (Nat.le_of_ble_eq_true rfl) rfl dX10_takeOut_36 ?_
    refine cg_aload_n C (i := 0) rfl 1 rfl dX10_takeOut_38 ?_
    refine cg_aload C 0 rfl dX10_takeOut_39 ?_
    obtain ⟨hc_41, h⟩ := h
    obtain ⟨b7, hb_b7, h⟩ := h
    refine cg_get C (k := 2) (j := 0) (.ref b7) hc_41.1 hc_41.2 (by decide) rfl (by decide) rfl (show cV _ 2 0 r_6 = _ from congrArg va_rf hb_b7) cWs_wsX20 cl_X10_36 rfl dX10_takeOut_41 ?_
    obtain ⟨hc_44, h⟩ := h
    obtain ⟨hb_44, h⟩ := h
    refine cg_calli C (t_X10_placeOf l x0 b7 S_6 dp h) cc_X10_40 hc_44.1 hc_44.2 (by decide) rfl rfl ⟨by decide, by decide⟩ hb_44 rfl (Nat.le_of_ble_eq_true rfl) dX10_takeOut_44 (fun r_8 S_8 h => ?_)
    simp only [Nat.add_zero]
    refine cg_istore C (lv' := [(7, .int r_8), (6, .ref r_6), (0, .ref x0), (1, .ref x1), (2, .ref x2), (3, .ref x3), (4, .int x4), (5, .int x5)]) (Nat.le_of_ble_eq_true rfl) rfl dX10_takeOut_47 ?_
    refine cg_iload C 0 rfl dX10_takeOut_49 ?_
    refine cg_iconst C (x := (-1)) rfl dX10_takeOut_51 ?_
    refine cg_icmp_eq C 93 (by decide) dX10_takeOut_52 (fun c_ => ?_) (fun c_ => ?_)
    · have h := h.1 c_
      exact cg_sub [2, 3, 4, 5, 6, 7] rfl (tb_X10_takeOut_93 C  hR12 x0 x1 x2 x3 x4 x5 cd dd S_8 h)
    · have h := h.2 c_
      refine cg_aload C 1 rfl dX10_takeOut_55 ?_
      refine cg_aload_n C (i := 0) rfl 2 rfl dX10_takeOut_57 ?_
      obtain ⟨hc_58, h⟩ := h
      obtain ⟨b10, hb_b10, h⟩ := h
      refine cg_get C (k := 10) (j := 1) (.ref b10) hc_58.1 hc_58.2 (by decide) rfl (by decide) rfl (show cV _ 10 1 x0 = _ from congrArg va_rf hb_b10) cWs_wsX100 cl_X10_12 rfl dX10_takeOut_58 ?_
      refine cg_iload C 0 rfl dX10_takeOut_61 ?_
      obtain ⟨hc_63, h⟩ := h
      obtain ⟨hb_63, h⟩ := h
      refine cg_callr C (t_Jx4a65c_get_915e3 l b10 r_8 S_8 dp h) cc_X10_26 hc_63.1 hc_63.2 (by decide) rfl rfl ⟨by decide, by decide⟩ hb_63 rfl (Nat.le_of_ble_eq_true rfl) dX10_takeOut_63 (fun r_11 S_11 h => ?_)
      simp only [Nat.add_zero]
      obtain ⟨hc_66, h⟩ := h
      refine cg_ccast C (k := 2) hc_66.1 hc_66.2 (by decide) rfl cnc_X10_30 dX10_takeOut_66 ?_
      refine cg_aload_n C (i := 2) rfl 4 rfl dX10_takeOut_69 ?_
      refine cg_aload_n C (i := 3) rfl 5 rfl dX10_takeOut_70 ?_
      obtain ⟨hc_71, h⟩ := h
      obtain ⟨mc12, ms13, hm_1, hm_2, h⟩ := h
      refine cg_callv C (t_X2_gather l mc12 ms13 r_6 r_11 x2 x3 S_11 dp h) cc_X10_44 hc_71.1 hc_71.2 (by decide) rfl rfl ⟨by decide, by decide⟩ ⟨hm_1, hm_2⟩ rfl (Nat.le_of_ble_eq_true rfl) dX10_takeOut_71 (fun S_14 h => ?_)
      refine cg_aload_n C (i := 0) rfl 2 rfl dX10_takeOut_74 ?_
      obtain ⟨hc_75, h⟩ := h
      obtain ⟨b15, hb_b15, h⟩ := h
      refine cg_get C (k := 10) (j := 1) (.ref b15) hc_75.1 hc_75.2 (by decide) rfl (by decide) rfl (show cV _ 10 1 x0 = _ from congrArg va_rf hb_b15) cWs_wsX100 cl_X10_12 rfl dX10_takeOut_75 ?_
      refine cg_iload C 0 rfl dX10_takeOut_78 ?_
      obtain ⟨hc_80, h⟩ := h
      obtain ⟨hb_80, h⟩ := h
      refine cg_callr C (t_Jx4a65c_remove_915e3 l b15 r_8 S_14 dp h) cc_X10_48 hc_80.1 hc_80.2 (by decide) rfl rfl ⟨by decide, by decide⟩ hb_80 rfl (Nat.le_of_ble_eq_true rfl) dX10_takeOut_80 (fun r_16 S_16 h => ?_)
      simp only [Nat.add_zero]
      refine cg_pop C rfl dX10_takeOut_83 ?_
      refine cg_iload C 6 rfl dX10_takeOut_84 ?_
      refine cg_iload C 0 rfl dX10_takeOut_86 ?_
      obtain ⟨hc_88, h⟩ := h
      refine cg_mmin C cmmin_X10_51 cmmin_s cmm_i cmmin_c (Nat.le_of_ble_eq_true rfl) (Nat.le_of_ble_eq_true rfl) hc_88.1 hc_88.2 dX10_takeOut_88 ?_
      refine cg_nmI (fun x4_17 e_x4_17 => ?_)
      have h := h x4_17 e_x4_17
      refine cg_istore C (lv' := [(4, .int x4_17), (7, .int r_8), (6, .ref r_6), (0, .ref x0), (1, .ref x1), (2, .ref x2), (3, .ref x3), (5, .int x5)]) (Nat.le_of_ble_eq_true rfl) rfl dX10_takeOut_91 ?_
      exact cg_sub [3, 4, 5, 6, 0, 7] rfl (tb_X10_takeOut_93 C  hR12 x0 x1 x2 x3 x4_17 x5 (cd + mc12) (dd + ms13) S_16 h)
set_option maxRecDepth 20000 in
theorem tl_X10_takeOut_12 {mc ms : Nat} (C : cC p s m args meth c cX10_takeOut 8 (some .int) A D Y tp dp RX10) {post : Int32 → cS → Prop}   (x0 : Nat) (x1 : Nat) (x2 : Nat) (x3 : Nat) (x4 : Int32) (x5 : Int32) (cd dd : Nat) (S : cS) (h : k_X10_takeOut_12L post dp mc ms  x0 x1 x2 x3 x4 x5 cd dd S) : cG p l e (cRm 9 mc ms 212) s m args below meth c A D Y 8 (MQ below (cQi post D Y A) args s mc ms A) cd dd 12 [(0, .ref x0), (1, .ref x1), (2, .ref x2), (3, .ref x3), (4, .int x4), (5, .int x5)] [] S :=
  h (fun y => cG p l e (cRm 9 mc ms 212) s m args below meth c A D Y 8 (MQ below (cQi post D Y A) args s mc ms A) (y.2.2.2.2.2.2.1) (y.2.2.2.2.2.2.2.1) 12 [(0, .ref (y.1)), (1, .ref (y.2.1)), (2, .ref (y.2.2.1)), (3, .ref (y.2.2.2.1)), (4, .int (y.2.2.2.2.1)), (5, .int (y.2.2.2.2.2.1))] [] (y.2.2.2.2.2.2.2.2)) (fun y hy => tb_X10_takeOut_12 C   (fun b0 b1 b2 b3 b4 b5 b6 b7 S z => z) (y.1) (y.2.1) (y.2.2.1) (y.2.2.2.1) (y.2.2.2.2.1) (y.2.2.2.2.2.1) (y.2.2.2.2.2.2.1) (y.2.2.2.2.2.2.2.1) (y.2.2.2.2.2.2.2.2) hy)
end S_X10_takeOut
set_option maxHeartbeats 1000000 in
set_option maxRecDepth 20000 in
theorem t_X10_takeOut (l : Launch) (mc ms : Nat) (x0 : Nat) (x1 : Nat) (x2 : Nat) (x3 : Nat) (S : cS) (dp : Nat) {P : Int32 → cS → Prop} (h : k_X10_takeOut P dp mc ms x0 x1 x2 x3 S) : cMet (cQi P) l yX10_takeOut cX10_takeOut 8 (some .int) 9 mc ms 212 [.ref x0, .ref x1, .ref x2, .ref x3] S dp := by
  intro D Y tp sz
  refine cg_body (by decide +kernel) (Nat.le_of_ble_eq_true rfl) ?_
  intro p e s m args below meth c C
  generalize va_A (cWd Y S) sz = A at C ⊢
  have C : cC p s m args meth c cX10_takeOut 8 (some .int) A D Y tp dp RX10 := C
  refine cg_lv (lv' := [(0, .ref x0), (1, .ref x1), (2, .ref x2), (3, .ref x3)]) rfl ?_
  unfold k_X10_takeOut at h
  refine cg_aload_n C (i := 0) rfl 0 rfl dX10_takeOut_0 ?_
  obtain ⟨hc_1, h⟩ := h
  obtain ⟨b1, hb_b1, h⟩ := h
  refine cg_get C (k := 10) (j := 1) (.ref b1) hc_1.1 hc_1.2 (by decide) rfl (by decide) rfl (show cV _ 10 1 x0 = _ from congrArg va_rf hb_b1) cWs_wsX100 cl_X10_12 rfl dX10_takeOut_1 ?_
  obtain ⟨hc_4, h⟩ := h
  obtain ⟨hb_4, h⟩ := h
  refine cg_calli C (t_Jx4a65c_size_8abf5 l b1 S dp h) cc_X10_22 hc_4.1 hc_4.2 (by decide) rfl rfl ⟨by decide, by decide⟩ hb_4 rfl (Nat.le_of_ble_eq_true rfl) dX10_takeOut_4 (fun r_2 S_2 h => ?_)
  simp only [Nat.add_zero]
  refine cg_istore C (lv' := [(4, .int r_2), (0, .ref x0), (1, .ref x1), (2, .ref x2), (3, .ref x3)]) (Nat.le_of_ble_eq_true rfl) rfl dX10_takeOut_7 ?_
  refine cg_iconst C (x := nI 0) rfl dX10_takeOut_9 ?_
  refine cg_istore C (lv' := [(5, .int ((nI 0))), (4, .int r_2), (0, .ref x0), (1, .ref x1), (2, .ref x2), (3, .ref x3)]) (Nat.le_of_ble_eq_true rfl) rfl dX10_takeOut_10 ?_
  exact cg_sub [2, 3, 4, 5, 1, 0] rfl (tl_X10_takeOut_12 C   x0 x1 x2 x3 r_2 (((nI 0))) 0 0 S_2 h)
def k_X10_copyOf_16 (Q : Nat → cS → Prop) (dp : Nat) (mc ms : Nat) (R16 : Nat → Int32 → Int32 → Nat → Int32 → Nat → Nat → cS → Prop) (x0 : Nat) (x1 : Int32) (x2 : Int32) (x3 : Nat) (x4 : Int32) (cd dd : Nat) (S : cS) : Prop :=
((((x1 + x2)) ≤ x4 →
  (cd ≤ mc ∧ dd ≤ ms) ∧ (Q x3 S)) ∧
 (¬ ((x1 + x2)) ≤ x4 →
  cA S x0 10 ∧ ((∃ b7 : Nat, cr S 321 x0 = some b7 ∧ (cA S b7 12 ∧ ((cd ≤ mc ∧ dd ≤ ms) ∧ (k_Jx4a65c_size_8abf5 (fun r_8 S_8 => 
  ((r_8 ≤ x4 →
    (cd ≤ mc ∧ dd ≤ ms) ∧ (Q x3 S_8)) ∧
   (¬ r_8 ≤ x4 →
    cA S_8 x3 10 ∧ ((∃ b9 : Nat, cr S_8 321 x3 = some b9 ∧ (cA S_8 x0 10 ∧ ((∃ b10 : Nat, cr S_8 321 x0 = some b10 ∧ (cA S_8 b10 12 ∧ ((cd ≤ mc ∧ dd ≤ ms) ∧ (k_Jx4a65c_get_915e3 (fun r_11 S_11 => 
    cA S_11 r_11 2 ∧ (cA S_11 r_11 2 ∧ ((∃ mc12 ms13 : Nat, cd + mc12 ≤ mc ∧ dd + ms13 ≤ ms ∧ (k_X2_copy (fun r_14 S_14 => 
    cA S_14 b9 12 ∧ ((∃ mc15 ms16 : Nat, cd + mc12 + mc15 ≤ mc ∧ dd + ms13 + ms16 ≤ ms ∧ (k_Jx4a65c_add_9ea2d (fun r_17 S_17 => 
    ∀ x4_18 : Int32, x4_18 = x4 + nI 1 → R16 x0 x1 x2 x3 x4_18 (cd + mc12 + mc15) (dd + ms13 + ms16) S_17) dp mc15 ms16 b9 r_14 S_14)))) dp mc12 ms13 r_11 S_11))))) dp b10 x4 S_8))))))))))) dp b7 S)))))))
def k_X10_copyOf_16L (Q : Nat → cS → Prop) (dp : Nat) (mc ms : Nat)  (x0 : Nat) (x1 : Int32) (x2 : Int32) (x3 : Nat) (x4 : Int32) (cd dd : Nat) (S : cS) : Prop :=
  lfp (X := Nat × Int32 × Int32 × Nat × Int32 × Nat × Nat × cS) (fun P y => k_X10_copyOf_16 Q dp mc ms  (fun b0 b1 b2 b3 b4 b5 b6 S => P (b0, b1, b2, b3, b4, b5, b6, S)) y.1 y.2.1 y.2.2.1 y.2.2.2.1 y.2.2.2.2.1 y.2.2.2.2.2.1 y.2.2.2.2.2.2.1 y.2.2.2.2.2.2.2) (x0, x1, x2, x3, x4, cd, dd, S)
def k_X10_copyOf (Q : Nat → cS → Prop) (dp : Nat) (mc ms : Nat) (x0 : Nat) (x1 : Int32) (x2 : Int32) (S : cS) : Prop :=
(0 + 1 ≤ mc ∧ 0 + 2 ≤ ms) ∧ (∀ q1 : Nat, q1 ∉ cL S → ∀ S2 : cS, S2 = cNew S q1 10 → (∃ mc3 ms4 : Nat, 0 + 1 + mc3 ≤ mc ∧ 0 + 2 + ms4 ≤ ms ∧ (k_X10_init (fun S_5 => 
(0 + 1 + mc3 ≤ mc ∧ 0 + 2 + ms4 ≤ ms) ∧ (∀ x4_6 : Int32, x4_6 = (if x1 < ((nI 0)) then ((nI 0)) else x1) → k_X10_copyOf_16L Q dp mc ms  x0 x1 x2 q1 x4_6 (0 + 1 + mc3) (0 + 2 + ms4) S_5)) dp mc3 ms4 q1 (((-1))) S2)))
section S_X10_copyOf
variable {p : Program} {l : Launch} {e : Env} {s : State} {m : MethodId} {args : Array Value} {below : List Frame} {meth : Method} {c : Code} {A : Nat → Prop} {D : va_G} {Y : cY} {tp dp : Nat}
set_option maxRecDepth 20000 in
theorem tb_X10_copyOf_16 {mc ms : Nat} (C : cC p s m args meth c cX10_copyOf 5 (some (.object "SearchMill$View")) A D Y tp dp RX10) {post : Nat → cS → Prop} {R16 : Nat → Int32 → Int32 → Nat → Int32 → Nat → Nat → cS → Prop} (hR16 : ∀ (x0 : Nat) (x1 : Int32) (x2 : Int32) (x3 : Nat) (x4 : Int32) (cd dd : Nat) (S : cS), R16 x0 x1 x2 x3 x4 cd dd S → cG p l e (cRm 8 mc ms 188) s m args below meth c A D Y 5 (MQ below (cQr post D Y A) args s mc ms A) cd dd 16 [(0, .ref x0), (1, .int x1), (2, .int x2), (3, .ref x3), (4, .int x4)] [] S) (x0 : Nat) (x1 : Int32) (x2 : Int32) (x3 : Nat) (x4 : Int32) (cd dd : Nat) (S : cS) (h : k_X10_copyOf_16 post dp mc ms R16 x0 x1 x2 x3 x4 cd dd S) : cG p l e (cRm 8 mc ms 188) s m args below meth c A D Y 5 (MQ below (cQr post D Y A) args s mc ms A) cd dd 16 [(0, .ref x0), (1, .int x1), (2, .int x2), (3, .ref x3), (4, .int x4)] [] S := by
  unfold k_X10_copyOf_16 at h
  refine cg_iload C 4 rfl dX10_copyOf_16 ?_
  refine cg_iload_n C (i := 1) rfl 1 rfl dX10_copyOf_18 ?_
  refine cg_iload_n C (i := 2) rfl 2 rfl dX10_copyOf_19 ?_
  refine cg_iadd C dX10_copyOf_20 ?_
  refine cg_icmp_ge C 65 (by decide) dX10_copyOf_21 (fun c_ => ?_) (fun c_ => ?_)
  · have h := h.1 c_
    refine cg_aload_n C (i := 3) rfl 3 rfl dX10_copyOf_65 ?_
    obtain ⟨hb_66, h⟩ := h
    exact cg_aret C rfl (by first | exact Or.inl ⟨_, rfl⟩ | exact Or.inr ⟨_, rfl⟩) h dX10_copyOf_66 hb_66.1 hb_66.2
  · have h := h.2 c_
    refine cg_iload C 4 rfl dX10_copyOf_24 ?_
    refine cg_aload_n C (i := 0) rfl 0 rfl dX10_copyOf_26 ?_
    obtain ⟨hc_27, h⟩ := h
    obtain ⟨b7, hb_b7, h⟩ := h
    refine cg_get C (k := 10) (j := 1) (.ref b7) hc_27.1 hc_27.2 (by decide) rfl (by decide) rfl (show cV _ 10 1 x0 = _ from congrArg va_rf hb_b7) cWs_wsX100 cl_X10_12 rfl dX10_copyOf_27 ?_
    obtain ⟨hc_30, h⟩ := h
    obtain ⟨hb_30, h⟩ := h
    refine cg_calli C (t_Jx4a65c_size_8abf5 l b7 S dp h) cc_X10_22 hc_30.1 hc_30.2 (by decide) rfl rfl ⟨by decide, by decide⟩ hb_30 rfl (Nat.le_of_ble_eq_true rfl) dX10_copyOf_30 (fun r_8 S_8 h => ?_)
    simp only [Nat.add_zero]
    refine cg_icmp_ge C 65 (by decide) dX10_copyOf_33 (fun c_ => ?_) (fun c_ => ?_)
    · have h := h.1 c_
      refine cg_aload_n C (i := 3) rfl 3 rfl dX10_copyOf_65 ?_
      obtain ⟨hb_66, h⟩ := h
      exact cg_aret C rfl (by first | exact Or.inl ⟨_, rfl⟩ | exact Or.inr ⟨_, rfl⟩) h dX10_copyOf_66 hb_66.1 hb_66.2
    · have h := h.2 c_
      refine cg_aload_n C (i := 3) rfl 3 rfl dX10_copyOf_36 ?_
      obtain ⟨hc_37, h⟩ := h
      obtain ⟨b9, hb_b9, h⟩ := h
      refine cg_get C (k := 10) (j := 1) (.ref b9) hc_37.1 hc_37.2 (by decide) rfl (by decide) rfl (show cV _ 10 1 x3 = _ from congrArg va_rf hb_b9) cWs_wsX100 cl_X10_12 rfl dX10_copyOf_37 ?_
      refine cg_aload_n C (i := 0) rfl 0 rfl dX10_copyOf_40 ?_
      obtain ⟨hc_41, h⟩ := h
      obtain ⟨b10, hb_b10, h⟩ := h
      refine cg_get C (k := 10) (j := 1) (.ref b10) hc_41.1 hc_41.2 (by decide) rfl (by decide) rfl (show cV _ 10 1 x0 = _ from congrArg va_rf hb_b10) cWs_wsX100 cl_X10_12 rfl dX10_copyOf_41 ?_
      refine cg_iload C 4 rfl dX10_copyOf_44 ?_
      obtain ⟨hc_46, h⟩ := h
      obtain ⟨hb_46, h⟩ := h
      refine cg_callr C (t_Jx4a65c_get_915e3 l b10 x4 S_8 dp h) cc_X10_26 hc_46.1 hc_46.2 (by decide) rfl rfl ⟨by decide, by decide⟩ hb_46 rfl (Nat.le_of_ble_eq_true rfl) dX10_copyOf_46 (fun r_11 S_11 h => ?_)
      simp only [Nat.add_zero]
      obtain ⟨hc_49, h⟩ := h
      refine cg_ccast C (k := 2) hc_49.1 hc_49.2 (by decide) rfl cnc_X10_30 dX10_copyOf_49 ?_
      obtain ⟨hc_52, h⟩ := h
      obtain ⟨mc12, ms13, hm_1, hm_2, h⟩ := h
      refine cg_callr C (t_X2_copy l mc12 ms13 r_11 S_11 dp h) cc_X10_63 hc_52.1 hc_52.2 (by decide) rfl rfl ⟨by decide, by decide⟩ ⟨hm_1, hm_2⟩ rfl (Nat.le_of_ble_eq_true rfl) dX10_copyOf_52 (fun r_14 S_14 h => ?_)
      obtain ⟨hc_55, h⟩ := h
      obtain ⟨mc15, ms16, hm_1, hm_2, h⟩ := h
      refine cg_calli C (t_Jx4a65c_add_9ea2d l mc15 ms16 b9 r_14 S_14 dp h) cc_X10_67 hc_55.1 hc_55.2 (by decide) rfl rfl ⟨by decide, by decide⟩ ⟨hm_1, hm_2⟩ rfl (Nat.le_of_ble_eq_true rfl) dX10_copyOf_55 (fun r_17 S_17 h => ?_)
      refine cg_pop C rfl dX10_copyOf_58 ?_
      obtain ⟨x4_18, e_x4_18⟩ : ∃ z : Int32, z = x4 + nI 1 := ⟨_, rfl⟩
      have h := h x4_18 e_x4_18
      refine cg_iinc C (lv' := [(4, .int x4_18), (0, .ref x0), (1, .int x1), (2, .int x2), (3, .ref x3)]) 4 rfl (by rw [e_x4_18]; rfl) (Nat.le_of_ble_eq_true rfl) rfl dX10_copyOf_59 ?_
      refine cg_goto C 16 (by decide) dX10_copyOf_62 ?_
      exact cg_sub [1, 2, 3, 4, 0] rfl (hR16 x0 x1 x2 x3 x4_18 (cd + mc12 + mc15) (dd + ms13 + ms16) S_17 h)
set_option maxRecDepth 20000 in
theorem tl_X10_copyOf_16 {mc ms : Nat} (C : cC p s m args meth c cX10_copyOf 5 (some (.object "SearchMill$View")) A D Y tp dp RX10) {post : Nat → cS → Prop}   (x0 : Nat) (x1 : Int32) (x2 : Int32) (x3 : Nat) (x4 : Int32) (cd dd : Nat) (S : cS) (h : k_X10_copyOf_16L post dp mc ms  x0 x1 x2 x3 x4 cd dd S) : cG p l e (cRm 8 mc ms 188) s m args below meth c A D Y 5 (MQ below (cQr post D Y A) args s mc ms A) cd dd 16 [(0, .ref x0), (1, .int x1), (2, .int x2), (3, .ref x3), (4, .int x4)] [] S :=
  h (fun y => cG p l e (cRm 8 mc ms 188) s m args below meth c A D Y 5 (MQ below (cQr post D Y A) args s mc ms A) (y.2.2.2.2.2.1) (y.2.2.2.2.2.2.1) 16 [(0, .ref (y.1)), (1, .int (y.2.1)), (2, .int (y.2.2.1)), (3, .ref (y.2.2.2.1)), (4, .int (y.2.2.2.2.1))] [] (y.2.2.2.2.2.2.2)) (fun y hy => tb_X10_copyOf_16 C   (fun b0 b1 b2 b3 b4 b5 b6 S z => z) (y.1) (y.2.1) (y.2.2.1) (y.2.2.2.1) (y.2.2.2.2.1) (y.2.2.2.2.2.1) (y.2.2.2.2.2.2.1) (y.2.2.2.2.2.2.2) hy)
end S_X10_copyOf
set_option maxHeartbeats 1000000 in
set_option maxRecDepth 20000 in
theorem t_X10_copyOf (l : Launch) (mc ms : Nat) (x0 : Nat) (x1 : Int32) (x2 : Int32) (S : cS) (dp : Nat) {P : Nat → cS → Prop} (h : k_X10_copyOf P dp mc ms x0 x1 x2 S) : cMet (cQr P) l yX10_copyOf cX10_copyOf 5 (some (.object "SearchMill$View")) 8 mc ms 188 [.ref x0, .int x1, .int x2] S dp := by
  intro D Y tp sz
  refine cg_body (by decide +kernel) (Nat.le_of_ble_eq_true rfl) ?_
  intro p e s m args below meth c C
  generalize va_A (cWd Y S) sz = A at C ⊢
  have C : cC p s m args meth c cX10_copyOf 5 (some (.object "SearchMill$View")) A D Y tp dp RX10 := C
  refine cg_lv (lv' := [(0, .ref x0), (1, .int x1), (2, .int x2)]) rfl ?_
  unfold k_X10_copyOf at h
  obtain ⟨hc_0, h⟩ := h
  refine cg_new C (k := 10) (N := 2) (fs := [.int 0, .null]) (by decide) rfl cWs_wsX100 tyX10_ok cn_X10_13 ci_X10 ct_X10 (fun j_ hj_ => by rcases (show j_ = 0 ∨ j_ = 1 by omega) with rfl | rfl <;> rfl) rfl hc_0.1 hc_0.2 dX10_copyOf_0 (fun q1 hf_q1 => ?_)
  have h := h q1 hf_q1
  refine cg_nm (fun S2 e_S2 => ?_)
  have h := h S2 e_S2
  refine cg_dup C rfl dX10_copyOf_3 ?_
  refine cg_iconst C (x := (-1)) rfl dX10_copyOf_4 ?_
  obtain ⟨mc3, ms4, hm_1, hm_2, h⟩ := h
  refine cg_callI C (t_X10_init l mc3 ms4 q1 (((-1))) S2 dp h) cz_X10_57 rfl ⟨by decide, by decide⟩ ⟨hm_1, hm_2⟩ rfl (Nat.le_of_ble_eq_true rfl) dX10_copyOf_5 (fun S_5 h => ?_)
  refine cg_astore_n (lv' := [(3, .ref q1), (0, .ref x0), (1, .int x1), (2, .int x2)]) C (i := 3) rfl (Nat.le_of_ble_eq_true rfl) rfl dX10_copyOf_8 ?_
  refine cg_iload_n C (i := 1) rfl 2 rfl dX10_copyOf_9 ?_
  refine cg_iconst C (x := nI 0) rfl dX10_copyOf_10 ?_
  obtain ⟨hc_11, h⟩ := h
  refine cg_mmax C cmmax_X10_60 cmmax_s cmm_i cmmax_c (Nat.le_of_ble_eq_true rfl) (Nat.le_of_ble_eq_true rfl) hc_11.1 hc_11.2 dX10_copyOf_11 ?_
  refine cg_nmI (fun x4_6 e_x4_6 => ?_)
  have h := h x4_6 e_x4_6
  refine cg_istore C (lv' := [(4, .int x4_6), (3, .ref q1), (0, .ref x0), (1, .int x1), (2, .int x2)]) (Nat.le_of_ble_eq_true rfl) rfl dX10_copyOf_14 ?_
  exact cg_sub [2, 3, 4, 1, 0] rfl (tl_X10_copyOf_16 C   x0 x1 x2 q1 x4_6 (0 + 1 + mc3) (0 + 2 + ms4) S_5 h)
def k_X10_holdingOf (Q : Option Nat → cS → Prop) (dp : Nat) (x0 : Nat) (x1 : Nat) (S : cS) : Prop :=
cA S x0 10 ∧ (k_X10_placeOf (fun r_1 S_1 => 
cA S_1 x0 10 ∧ (k_X10_at (fun r_2 S_2 => 
((r_2 = none →
  Q none S_2) ∧
 (∀ b3 : Nat, r_2 = some b3 →
  Q (some b3) S_2))) dp x0 r_1 S_1)) dp x0 x1 S)
set_option maxHeartbeats 1000000 in
set_option maxRecDepth 20000 in
theorem t_X10_holdingOf (l : Launch) (x0 : Nat) (x1 : Nat) (S : cS) (dp : Nat) {P : Option Nat → cS → Prop} (h : k_X10_holdingOf P dp x0 x1 S) : cMet (cQq P) l yX10_holdingOf cX10_holdingOf 2 (some (.object "SearchMill$Holding")) 4 0 0 86 [.ref x0, .ref x1] S dp := by
  intro D Y tp sz
  refine cg_body (by decide +kernel) (Nat.le_of_ble_eq_true rfl) ?_
  intro p e s m args below meth c C
  generalize va_A (cWd Y S) sz = A at C ⊢
  have C : cC p s m args meth c cX10_holdingOf 2 (some (.object "SearchMill$Holding")) A D Y tp dp RX10 := C
  refine cg_lv (lv' := [(0, .ref x0), (1, .ref x1)]) rfl ?_
  unfold k_X10_holdingOf at h
  refine cg_aload_n C (i := 0) rfl 0 rfl dX10_holdingOf_0 ?_
  refine cg_aload_n C (i := 0) rfl 0 rfl dX10_holdingOf_1 ?_
  refine cg_aload_n C (i := 1) rfl 1 rfl dX10_holdingOf_2 ?_
  obtain ⟨hc_3, h⟩ := h
  refine cg_calli C (t_X10_placeOf l x0 x1 S dp h) cc_X10_40 hc_3.1 hc_3.2 (by decide) rfl rfl ⟨by decide, by decide⟩ ⟨by decide, by decide⟩ rfl (Nat.le_of_ble_eq_true rfl) dX10_holdingOf_3 (fun r_1 S_1 h => ?_)
  obtain ⟨hc_6, h⟩ := h
  refine cg_callq C (t_X10_at l x0 r_1 S_1 dp h) cc_X10_70 hc_6.1 hc_6.2 (by decide) rfl rfl ⟨by decide, by decide⟩ ⟨by decide, by decide⟩ rfl (Nat.le_of_ble_eq_true rfl) dX10_holdingOf_6 (fun r_2 S_2 h => ?_)
  obtain ho | ⟨b3, ho⟩ := c_opt r_2
  · replace h := h.1 ho
    subst ho
    refine cg_cast (.null) rfl ?_
    exact cg_anret C rfl (by first | exact Or.inl ⟨_, rfl⟩ | exact Or.inr ⟨_, rfl⟩) h dX10_holdingOf_9 (by decide) (by decide)
  · replace h := h.2 b3 ho
    subst ho
    refine cg_cast (.ref b3) rfl ?_
    exact cg_asret C rfl (by first | exact Or.inl ⟨_, rfl⟩ | exact Or.inr ⟨_, rfl⟩) h dX10_holdingOf_9 (by decide) (by decide)
def k_X10_liveDocument_2 (Q : Option Nat → cS → Prop) (dp : Nat) (R2 : Nat → Int32 → Int32 → cS → Prop) (x0 : Nat) (x1 : Int32) (x2 : Int32) (S : cS) : Prop :=
cA S x0 10 ∧ ((∃ b1 : Nat, cr S 321 x0 = some b1 ∧ (cA S b1 12 ∧ (k_Jx4a65c_size_8abf5 (fun r_2 S_2 => 
((r_2 ≤ x2 →
  Q none S_2) ∧
 (¬ r_2 ≤ x2 →
  cA S_2 x0 10 ∧ ((∃ b3 : Nat, cr S_2 321 x0 = some b3 ∧ (cA S_2 b3 12 ∧ (k_Jx4a65c_get_915e3 (fun r_4 S_4 => 
  cA S_4 r_4 2 ∧ (cA S_4 r_4 2 ∧ (k_X2_liveAt (fun r_5 S_5 => 
  ((r_5 = (((-1))) →
    ∀ x2_6 : Int32, x2_6 = x2 + nI 1 → R2 x0 x1 x2_6 S_5) ∧
   (¬ r_5 = (((-1))) →
    cA S_5 x0 10 ∧ ((∃ b7 : Nat, cr S_5 321 x0 = some b7 ∧ (cA S_5 b7 12 ∧ (k_Jx4a65c_get_915e3 (fun r_8 S_8 => 
    cA S_8 r_8 2 ∧ (cA S_8 r_8 2 ∧ ((∃ b9 : Nat, cr S_8 64 r_8 = some b9 ∧ (cA S_8 b9 8 ∧ ((∃ b10 : Nat, cr S_8 257 b9 = some b10 ∧ (cA S_8 b10 12 ∧ (k_Jx4a65c_get_915e3 (fun r_11 S_11 => 
    cA S_11 r_11 0 ∧ (Q (some r_11) S_11)) dp b10 r_5 S_8))))))))) dp b7 x2 S_5))))))) dp r_4 x1 S_4))) dp b3 x2 S_2))))))) dp b1 S))))
def k_X10_liveDocument_2L (Q : Option Nat → cS → Prop) (dp : Nat)  (x0 : Nat) (x1 : Int32) (x2 : Int32) (S : cS) : Prop :=
  lfp (X := Nat × Int32 × Int32 × cS) (fun P y => k_X10_liveDocument_2 Q dp  (fun b0 b1 b2 S => P (b0, b1, b2, S)) y.1 y.2.1 y.2.2.1 y.2.2.2) (x0, x1, x2, S)
def k_X10_liveDocument (Q : Option Nat → cS → Prop) (dp : Nat) (x0 : Nat) (x1 : Int32) (S : cS) : Prop :=
k_X10_liveDocument_2L Q dp  x0 x1 (((nI 0))) S
section S_X10_liveDocument
variable {p : Program} {l : Launch} {e : Env} {s : State} {m : MethodId} {args : Array Value} {below : List Frame} {meth : Method} {c : Code} {A : Nat → Prop} {D : va_G} {Y : cY} {tp dp : Nat}
set_option maxRecDepth 20000 in
theorem tb_X10_liveDocument_2 (C : cC p s m args meth c cX10_liveDocument 4 (some (.object "SearchMill$Document")) A D Y tp dp RX10) {post : Option Nat → cS → Prop} {R2 : Nat → Int32 → Int32 → cS → Prop} (hR2 : ∀ (x0 : Nat) (x1 : Int32) (x2 : Int32) (S : cS), R2 x0 x1 x2 S → cG p l e (cRm 4 0 0 86) s m args below meth c A D Y 4 (MQ below (cQq post D Y A) args s 0 0 A) 0 0 2 [(0, .ref x0), (1, .int x1), (2, .int x2)] [] S) (x0 : Nat) (x1 : Int32) (x2 : Int32) (S : cS) (h : k_X10_liveDocument_2 post dp R2 x0 x1 x2 S) : cG p l e (cRm 4 0 0 86) s m args below meth c A D Y 4 (MQ below (cQq post D Y A) args s 0 0 A) 0 0 2 [(0, .ref x0), (1, .int x1), (2, .int x2)] [] S := by
  unfold k_X10_liveDocument_2 at h
  refine cg_iload_n C (i := 2) rfl 2 rfl dX10_liveDocument_2 ?_
  refine cg_aload_n C (i := 0) rfl 0 rfl dX10_liveDocument_3 ?_
  obtain ⟨hc_4, h⟩ := h
  obtain ⟨b1, hb_b1, h⟩ := h
  refine cg_get C (k := 10) (j := 1) (.ref b1) hc_4.1 hc_4.2 (by decide) rfl (by decide) rfl (show cV _ 10 1 x0 = _ from congrArg va_rf hb_b1) cWs_wsX100 cl_X10_12 rfl dX10_liveDocument_4 ?_
  obtain ⟨hc_7, h⟩ := h
  refine cg_calli C (t_Jx4a65c_size_8abf5 l b1 S dp h) cc_X10_22 hc_7.1 hc_7.2 (by decide) rfl rfl ⟨by decide, by decide⟩ ⟨by decide, by decide⟩ rfl (Nat.le_of_ble_eq_true rfl) dX10_liveDocument_7 (fun r_2 S_2 h => ?_)
  refine cg_icmp_ge C 65 (by decide) dX10_liveDocument_10 (fun c_ => ?_) (fun c_ => ?_)
  · have h := h.1 c_
    refine cg_null C dX10_liveDocument_65 ?_
    exact cg_anret C rfl (by first | exact Or.inl ⟨_, rfl⟩ | exact Or.inr ⟨_, rfl⟩) h dX10_liveDocument_66 (by decide) (by decide)
  · have h := h.2 c_
    refine cg_aload_n C (i := 0) rfl 0 rfl dX10_liveDocument_13 ?_
    obtain ⟨hc_14, h⟩ := h
    obtain ⟨b3, hb_b3, h⟩ := h
    refine cg_get C (k := 10) (j := 1) (.ref b3) hc_14.1 hc_14.2 (by decide) rfl (by decide) rfl (show cV _ 10 1 x0 = _ from congrArg va_rf hb_b3) cWs_wsX100 cl_X10_12 rfl dX10_liveDocument_14 ?_
    refine cg_iload_n C (i := 2) rfl 2 rfl dX10_liveDocument_17 ?_
    obtain ⟨hc_18, h⟩ := h
    refine cg_callr C (t_Jx4a65c_get_915e3 l b3 x2 S_2 dp h) cc_X10_26 hc_18.1 hc_18.2 (by decide) rfl rfl ⟨by decide, by decide⟩ ⟨by decide, by decide⟩ rfl (Nat.le_of_ble_eq_true rfl) dX10_liveDocument_18 (fun r_4 S_4 h => ?_)
    obtain ⟨hc_21, h⟩ := h
    refine cg_ccast C (k := 2) hc_21.1 hc_21.2 (by decide) rfl cnc_X10_30 dX10_liveDocument_21 ?_
    refine cg_iload_n C (i := 1) rfl 1 rfl dX10_liveDocument_24 ?_
    obtain ⟨hc_25, h⟩ := h
    refine cg_calli C (t_X2_liveAt l r_4 x1 S_4 dp h) cc_X10_77 hc_25.1 hc_25.2 (by decide) rfl rfl ⟨by decide, by decide⟩ ⟨by decide, by decide⟩ rfl (Nat.le_of_ble_eq_true rfl) dX10_liveDocument_25 (fun r_5 S_5 h => ?_)
    refine cg_istore_n C (i := 3) (lv' := [(3, .int r_5), (0, .ref x0), (1, .int x1), (2, .int x2)]) rfl (Nat.le_of_ble_eq_true rfl) rfl dX10_liveDocument_28 ?_
    refine cg_iload_n C (i := 3) rfl 0 rfl dX10_liveDocument_29 ?_
    refine cg_iconst C (x := (-1)) rfl dX10_liveDocument_30 ?_
    refine cg_icmp_eq C 59 (by decide) dX10_liveDocument_31 (fun c_ => ?_) (fun c_ => ?_)
    · have h := h.1 c_
      obtain ⟨x2_6, e_x2_6⟩ : ∃ z : Int32, z = x2 + nI 1 := ⟨_, rfl⟩
      have h := h x2_6 e_x2_6
      refine cg_iinc C (lv' := [(2, .int x2_6), (3, .int r_5), (0, .ref x0), (1, .int x1)]) 3 rfl (by rw [e_x2_6]; rfl) (Nat.le_of_ble_eq_true rfl) rfl dX10_liveDocument_59 ?_
      refine cg_goto C 2 (by decide) dX10_liveDocument_62 ?_
      exact cg_sub [2, 3, 0] rfl (hR2 x0 x1 x2_6 S_5 h)
    · have h := h.2 c_
      refine cg_aload_n C (i := 0) rfl 1 rfl dX10_liveDocument_34 ?_
      obtain ⟨hc_35, h⟩ := h
      obtain ⟨b7, hb_b7, h⟩ := h
      refine cg_get C (k := 10) (j := 1) (.ref b7) hc_35.1 hc_35.2 (by decide) rfl (by decide) rfl (show cV _ 10 1 x0 = _ from congrArg va_rf hb_b7) cWs_wsX100 cl_X10_12 rfl dX10_liveDocument_35 ?_
      refine cg_iload_n C (i := 2) rfl 3 rfl dX10_liveDocument_38 ?_
      obtain ⟨hc_39, h⟩ := h
      refine cg_callr C (t_Jx4a65c_get_915e3 l b7 x2 S_5 dp h) cc_X10_26 hc_39.1 hc_39.2 (by decide) rfl rfl ⟨by decide, by decide⟩ ⟨by decide, by decide⟩ rfl (Nat.le_of_ble_eq_true rfl) dX10_liveDocument_39 (fun r_8 S_8 h => ?_)
      obtain ⟨hc_42, h⟩ := h
      refine cg_ccast C (k := 2) hc_42.1 hc_42.2 (by decide) rfl cnc_X10_30 dX10_liveDocument_42 ?_
      obtain ⟨hc_45, h⟩ := h
      obtain ⟨b9, hb_b9, h⟩ := h
      refine cg_get C (k := 2) (j := 0) (.ref b9) hc_45.1 hc_45.2 (by decide) rfl (by decide) rfl (show cV _ 2 0 r_8 = _ from congrArg va_rf hb_b9) cWs_wsX20 cl_X10_36 rfl dX10_liveDocument_45 ?_
      obtain ⟨hc_48, h⟩ := h
      obtain ⟨b10, hb_b10, h⟩ := h
      refine cg_get C (k := 8) (j := 1) (.ref b10) hc_48.1 hc_48.2 (by decide) rfl (by decide) rfl (show cV _ 8 1 b9 = _ from congrArg va_rf hb_b10) cWs_wsX80 cl_X10_81 rfl dX10_liveDocument_48 ?_
      refine cg_iload_n C (i := 3) rfl 0 rfl dX10_liveDocument_51 ?_
      obtain ⟨hc_52, h⟩ := h
      refine cg_callr C (t_Jx4a65c_get_915e3 l b10 r_5 S_8 dp h) cc_X10_26 hc_52.1 hc_52.2 (by decide) rfl rfl ⟨by decide, by decide⟩ ⟨by decide, by decide⟩ rfl (Nat.le_of_ble_eq_true rfl) dX10_liveDocument_52 (fun r_11 S_11 h => ?_)
      obtain ⟨hc_55, h⟩ := h
      refine cg_ccast C (k := 0) hc_55.1 hc_55.2 (by decide) rfl cnc_X10_86 dX10_liveDocument_55 ?_
      exact cg_asret C rfl (by first | exact Or.inl ⟨_, rfl⟩ | exact Or.inr ⟨_, rfl⟩) h dX10_liveDocument_58 (by decide) (by decide)
set_option maxRecDepth 20000 in
theorem tl_X10_liveDocument_2 (C : cC p s m args meth c cX10_liveDocument 4 (some (.object "SearchMill$Document")) A D Y tp dp RX10) {post : Option Nat → cS → Prop}   (x0 : Nat) (x1 : Int32) (x2 : Int32) (S : cS) (h : k_X10_liveDocument_2L post dp  x0 x1 x2 S) : cG p l e (cRm 4 0 0 86) s m args below meth c A D Y 4 (MQ below (cQq post D Y A) args s 0 0 A) 0 0 2 [(0, .ref x0), (1, .int x1), (2, .int x2)] [] S :=
  h (fun y => cG p l e (cRm 4 0 0 86) s m args below meth c A D Y 4 (MQ below (cQq post D Y A) args s 0 0 A) 0 0 2 [(0, .ref (y.1)), (1, .int (y.2.1)), (2, .int (y.2.2.1))] [] (y.2.2.2)) (fun y hy => tb_X10_liveDocument_2 C   (fun b0 b1 b2 S z => z) (y.1) (y.2.1) (y.2.2.1) (y.2.2.2) hy)
end S_X10_liveDocument
set_option maxHeartbeats 1000000 in
set_option maxRecDepth 20000 in
theorem t_X10_liveDocument (l : Launch) (x0 : Nat) (x1 : Int32) (S : cS) (dp : Nat) {P : Option Nat → cS → Prop} (h : k_X10_liveDocument P dp x0 x1 S) : cMet (cQq P) l yX10_liveDocument cX10_liveDocument 4 (some (.object "SearchMill$Document")) 4 0 0 86 [.ref x0, .int x1] S dp := by
  intro D Y tp sz
  refine cg_body (by decide +kernel) (Nat.le_of_ble_eq_true rfl) ?_
  intro p e s m args below meth c C
  generalize va_A (cWd Y S) sz = A at C ⊢
  have C : cC p s m args meth c cX10_liveDocument 4 (some (.object "SearchMill$Document")) A D Y tp dp RX10 := C
  refine cg_lv (lv' := [(0, .ref x0), (1, .int x1)]) rfl ?_
  unfold k_X10_liveDocument at h
  refine cg_iconst C (x := nI 0) rfl dX10_liveDocument_0 ?_
  refine cg_istore_n C (i := 2) (lv' := [(2, .int ((nI 0))), (0, .ref x0), (1, .int x1)]) rfl (Nat.le_of_ble_eq_true rfl) rfl dX10_liveDocument_1 ?_
  exact cg_sub [1, 2, 0] rfl (tl_X10_liveDocument_2 C   x0 x1 (((nI 0))) S h)
def k_X10_kill_2 (Q : Int32 → cS → Prop) (dp : Nat) (R2 : Nat → Int32 → Int32 → cS → Prop) (x0 : Nat) (x1 : Int32) (x2 : Int32) (S : cS) : Prop :=
cA S x0 10 ∧ ((∃ b1 : Nat, cr S 321 x0 = some b1 ∧ (cA S b1 12 ∧ (k_Jx4a65c_size_8abf5 (fun r_2 S_2 => 
((r_2 ≤ x2 →
  Q ((bI false)) S_2) ∧
 (¬ r_2 ≤ x2 →
  cA S_2 x0 10 ∧ ((∃ b3 : Nat, cr S_2 321 x0 = some b3 ∧ (cA S_2 b3 12 ∧ (k_Jx4a65c_get_915e3 (fun r_4 S_4 => 
  cA S_4 r_4 2 ∧ (cA S_4 r_4 2 ∧ (k_X2_kill (fun r_5 S_5 => 
  ((r_5 = 0 →
    ∀ x2_6 : Int32, x2_6 = x2 + nI 1 → R2 x0 x1 x2_6 S_5) ∧
   (¬ r_5 = 0 →
    Q ((bI true)) S_5))) dp r_4 x1 S_4))) dp b3 x2 S_2))))))) dp b1 S))))
def k_X10_kill_2L (Q : Int32 → cS → Prop) (dp : Nat)  (x0 : Nat) (x1 : Int32) (x2 : Int32) (S : cS) : Prop :=
  lfp (X := Nat × Int32 × Int32 × cS) (fun P y => k_X10_kill_2 Q dp  (fun b0 b1 b2 S => P (b0, b1, b2, S)) y.1 y.2.1 y.2.2.1 y.2.2.2) (x0, x1, x2, S)
def k_X10_kill (Q : Int32 → cS → Prop) (dp : Nat) (x0 : Nat) (x1 : Int32) (S : cS) : Prop :=
k_X10_kill_2L Q dp  x0 x1 (((nI 0))) S
section S_X10_kill
variable {p : Program} {l : Launch} {e : Env} {s : State} {m : MethodId} {args : Array Value} {below : List Frame} {meth : Method} {c : Code} {A : Nat → Prop} {D : va_G} {Y : cY} {tp dp : Nat}
set_option maxRecDepth 20000 in
theorem tb_X10_kill_2 (C : cC p s m args meth c cX10_kill 3 (some .boolean) A D Y tp dp RX10) {post : Int32 → cS → Prop} {R2 : Nat → Int32 → Int32 → cS → Prop} (hR2 : ∀ (x0 : Nat) (x1 : Int32) (x2 : Int32) (S : cS), R2 x0 x1 x2 S → cG p l e (cRm 5 0 0 108) s m args below meth c A D Y 3 (MQ below (cQi post D Y A) args s 0 0 A) 0 0 2 [(0, .ref x0), (1, .int x1), (2, .int x2)] [] S) (x0 : Nat) (x1 : Int32) (x2 : Int32) (S : cS) (h : k_X10_kill_2 post dp R2 x0 x1 x2 S) : cG p l e (cRm 5 0 0 108) s m args below meth c A D Y 3 (MQ below (cQi post D Y A) args s 0 0 A) 0 0 2 [(0, .ref x0), (1, .int x1), (2, .int x2)] [] S := by
  unfold k_X10_kill_2 at h
  refine cg_iload_n C (i := 2) rfl 2 rfl dX10_kill_2 ?_
  refine cg_aload_n C (i := 0) rfl 0 rfl dX10_kill_3 ?_
  obtain ⟨hc_4, h⟩ := h
  obtain ⟨b1, hb_b1, h⟩ := h
  refine cg_get C (k := 10) (j := 1) (.ref b1) hc_4.1 hc_4.2 (by decide) rfl (by decide) rfl (show cV _ 10 1 x0 = _ from congrArg va_rf hb_b1) cWs_wsX100 cl_X10_12 rfl dX10_kill_4 ?_
  obtain ⟨hc_7, h⟩ := h
  refine cg_calli C (t_Jx4a65c_size_8abf5 l b1 S dp h) cc_X10_22 hc_7.1 hc_7.2 (by decide) rfl rfl ⟨by decide, by decide⟩ ⟨by decide, by decide⟩ rfl (Nat.le_of_ble_eq_true rfl) dX10_kill_7 (fun r_2 S_2 h => ?_)
  refine cg_icmp_ge C 39 (by decide) dX10_kill_10 (fun c_ => ?_) (fun c_ => ?_)
  · have h := h.1 c_
    refine cg_iconst C (x := nI 0) rfl dX10_kill_39 ?_
    refine cg_cast (.int (bI false)) rfl ?_
    exact cg_zret C (bI_nar _) h dX10_kill_40 (by decide) (by decide)
  · have h := h.2 c_
    refine cg_aload_n C (i := 0) rfl 0 rfl dX10_kill_13 ?_
    obtain ⟨hc_14, h⟩ := h
    obtain ⟨b3, hb_b3, h⟩ := h
    refine cg_get C (k := 10) (j := 1) (.ref b3) hc_14.1 hc_14.2 (by decide) rfl (by decide) rfl (show cV _ 10 1 x0 = _ from congrArg va_rf hb_b3) cWs_wsX100 cl_X10_12 rfl dX10_kill_14 ?_
    refine cg_iload_n C (i := 2) rfl 2 rfl dX10_kill_17 ?_
    obtain ⟨hc_18, h⟩ := h
    refine cg_callr C (t_Jx4a65c_get_915e3 l b3 x2 S_2 dp h) cc_X10_26 hc_18.1 hc_18.2 (by decide) rfl rfl ⟨by decide, by decide⟩ ⟨by decide, by decide⟩ rfl (Nat.le_of_ble_eq_true rfl) dX10_kill_18 (fun r_4 S_4 h => ?_)
    obtain ⟨hc_21, h⟩ := h
    refine cg_ccast C (k := 2) hc_21.1 hc_21.2 (by decide) rfl cnc_X10_30 dX10_kill_21 ?_
    refine cg_iload_n C (i := 1) rfl 1 rfl dX10_kill_24 ?_
    obtain ⟨hc_25, h⟩ := h
    refine cg_calli C (t_X2_kill l r_4 x1 S_4 dp h) cc_X10_88 hc_25.1 hc_25.2 (by decide) rfl rfl ⟨by decide, by decide⟩ ⟨by decide, by decide⟩ rfl (Nat.le_of_ble_eq_true rfl) dX10_kill_25 (fun r_5 S_5 h => ?_)
    refine cg_if_eq C 33 (by decide) dX10_kill_28 (fun c_ => ?_) (fun c_ => ?_)
    · have h := h.1 c_
      obtain ⟨x2_6, e_x2_6⟩ : ∃ z : Int32, z = x2 + nI 1 := ⟨_, rfl⟩
      have h := h x2_6 e_x2_6
      refine cg_iinc C (lv' := [(2, .int x2_6), (0, .ref x0), (1, .int x1)]) 2 rfl (by rw [e_x2_6]; rfl) (Nat.le_of_ble_eq_true rfl) rfl dX10_kill_33 ?_
      refine cg_goto C 2 (by decide) dX10_kill_36 ?_
      exact cg_sub [1, 2, 0] rfl (hR2 x0 x1 x2_6 S_5 h)
    · have h := h.2 c_
      refine cg_iconst C (x := nI 1) rfl dX10_kill_31 ?_
      refine cg_cast (.int (bI true)) rfl ?_
      exact cg_zret C (bI_nar _) h dX10_kill_32 (by decide) (by decide)
set_option maxRecDepth 20000 in
theorem tl_X10_kill_2 (C : cC p s m args meth c cX10_kill 3 (some .boolean) A D Y tp dp RX10) {post : Int32 → cS → Prop}   (x0 : Nat) (x1 : Int32) (x2 : Int32) (S : cS) (h : k_X10_kill_2L post dp  x0 x1 x2 S) : cG p l e (cRm 5 0 0 108) s m args below meth c A D Y 3 (MQ below (cQi post D Y A) args s 0 0 A) 0 0 2 [(0, .ref x0), (1, .int x1), (2, .int x2)] [] S :=
  h (fun y => cG p l e (cRm 5 0 0 108) s m args below meth c A D Y 3 (MQ below (cQi post D Y A) args s 0 0 A) 0 0 2 [(0, .ref (y.1)), (1, .int (y.2.1)), (2, .int (y.2.2.1))] [] (y.2.2.2)) (fun y hy => tb_X10_kill_2 C   (fun b0 b1 b2 S z => z) (y.1) (y.2.1) (y.2.2.1) (y.2.2.2) hy)
end S_X10_kill
set_option maxHeartbeats 1000000 in
set_option maxRecDepth 20000 in
theorem t_X10_kill (l : Launch) (x0 : Nat) (x1 : Int32) (S : cS) (dp : Nat) {P : Int32 → cS → Prop} (h : k_X10_kill P dp x0 x1 S) : cMet (cQi P) l yX10_kill cX10_kill 3 (some .boolean) 5 0 0 108 [.ref x0, .int x1] S dp := by
  intro D Y tp sz
  refine cg_body (by decide +kernel) (Nat.le_of_ble_eq_true rfl) ?_
  intro p e s m args below meth c C
  generalize va_A (cWd Y S) sz = A at C ⊢
  have C : cC p s m args meth c cX10_kill 3 (some .boolean) A D Y tp dp RX10 := C
  refine cg_lv (lv' := [(0, .ref x0), (1, .int x1)]) rfl ?_
  unfold k_X10_kill at h
  refine cg_iconst C (x := nI 0) rfl dX10_kill_0 ?_
  refine cg_istore_n C (i := 2) (lv' := [(2, .int ((nI 0))), (0, .ref x0), (1, .int x1)]) rfl (Nat.le_of_ble_eq_true rfl) rfl dX10_kill_1 ?_
  exact cg_sub [1, 2, 0] rfl (tl_X10_kill_2 C   x0 x1 (((nI 0))) S h)
def k_X10_duePlace_81 (Q : Int32 → cS → Prop) (dp : Nat) (R2 : Nat → Int32 → cS → Prop) (x0 : Nat) (x1 : Int32) (S : cS) : Prop :=
∀ x1_11 : Int32, x1_11 = x1 + nI 1 → R2 x0 x1_11 S
def k_X10_duePlace_2 (Q : Int32 → cS → Prop) (dp : Nat) (R2 : Nat → Int32 → cS → Prop) (x0 : Nat) (x1 : Int32) (S : cS) : Prop :=
cA S x0 10 ∧ ((∃ b1 : Nat, cr S 321 x0 = some b1 ∧ (cA S b1 12 ∧ (k_Jx4a65c_size_8abf5 (fun r_2 S_2 => 
((r_2 < ((x1 + ((nI 3)))) →
  Q (((-1))) S_2) ∧
 (¬ r_2 < ((x1 + ((nI 3)))) →
  cA S_2 x0 10 ∧ ((∃ b3 : Nat, cr S_2 321 x0 = some b3 ∧ (cA S_2 b3 12 ∧ (k_Jx4a65c_get_915e3 (fun r_4 S_4 => 
  cA S_4 r_4 2 ∧ (cA S_4 r_4 2 ∧ ((∃ b5 : Nat, cr S_4 64 r_4 = some b5 ∧ (cA S_4 b5 8 ∧ (k_X8_tier (fun r_6 S_6 => 
  cA S_6 x0 10 ∧ ((∃ b7 : Nat, cr S_6 321 x0 = some b7 ∧ (cA S_6 b7 12 ∧ (k_Jx4a65c_get_915e3 (fun r_8 S_8 => 
  cA S_8 r_8 2 ∧ (cA S_8 r_8 2 ∧ ((∃ b9 : Nat, cr S_8 64 r_8 = some b9 ∧ (cA S_8 b9 8 ∧ (k_X8_tier (fun r_10 S_10 => 
  ((¬ r_10 = r_6 →
    k_X10_duePlace_81 Q dp R2 x0 x1 S_10) ∧
   (r_10 = r_6 →
    cA S_10 x0 10 ∧ ((∃ b12 : Nat, cr S_10 321 x0 = some b12 ∧ (cA S_10 b12 12 ∧ (k_Jx4a65c_get_915e3 (fun r_13 S_13 => 
    cA S_13 r_13 2 ∧ (cA S_13 r_13 2 ∧ ((∃ b14 : Nat, cr S_13 64 r_13 = some b14 ∧ (cA S_13 b14 8 ∧ (k_X8_tier (fun r_15 S_15 => 
    ((¬ r_15 = r_6 →
      k_X10_duePlace_81 Q dp R2 x0 x1 S_15) ∧
     (r_15 = r_6 →
      Q x1 S_15))) dp b14 S_13)))))) dp b12 ((x1 + ((nI 2)))) S_10))))))) dp b9 S_8)))))) dp b7 ((x1 + ((nI 1)))) S_6))))) dp b5 S_4)))))) dp b3 x1 S_2))))))) dp b1 S))))
def k_X10_duePlace_2L (Q : Int32 → cS → Prop) (dp : Nat)  (x0 : Nat) (x1 : Int32) (S : cS) : Prop :=
  lfp (X := Nat × Int32 × cS) (fun P y => k_X10_duePlace_2 Q dp  (fun b0 b1 S => P (b0, b1, S)) y.1 y.2.1 y.2.2) (x0, x1, S)
def k_X10_duePlace (Q : Int32 → cS → Prop) (dp : Nat) (x0 : Nat) (S : cS) : Prop :=
k_X10_duePlace_2L Q dp  x0 (((nI 0))) S
section S_X10_duePlace
variable {p : Program} {l : Launch} {e : Env} {s : State} {m : MethodId} {args : Array Value} {below : List Frame} {meth : Method} {c : Code} {A : Nat → Prop} {D : va_G} {Y : cY} {tp dp : Nat}
set_option maxRecDepth 20000 in
theorem tb_X10_duePlace_81 (C : cC p s m args meth c cX10_duePlace 3 (some .int) A D Y tp dp RX10) {post : Int32 → cS → Prop} {R2 : Nat → Int32 → cS → Prop} (hR2 : ∀ (x0 : Nat) (x1 : Int32) (S : cS), R2 x0 x1 S → cG p l e (cRm 3 0 0 64) s m args below meth c A D Y 3 (MQ below (cQi post D Y A) args s 0 0 A) 0 0 2 [(0, .ref x0), (1, .int x1)] [] S) (x0 : Nat) (x1 : Int32) (S : cS) (h : k_X10_duePlace_81 post dp R2 x0 x1 S) : cG p l e (cRm 3 0 0 64) s m args below meth c A D Y 3 (MQ below (cQi post D Y A) args s 0 0 A) 0 0 81 [(0, .ref x0), (1, .int x1)] [] S := by
  unfold k_X10_duePlace_81 at h
  obtain ⟨x1_11, e_x1_11⟩ : ∃ z : Int32, z = x1 + nI 1 := ⟨_, rfl⟩
  have h := h x1_11 e_x1_11
  refine cg_iinc C (lv' := [(1, .int x1_11), (0, .ref x0)]) 1 rfl (by rw [e_x1_11]; rfl) (Nat.le_of_ble_eq_true rfl) rfl dX10_duePlace_81 ?_
  refine cg_goto C 2 (by decide) dX10_duePlace_84 ?_
  exact cg_sub [1, 0] rfl (hR2 x0 x1_11 S h)
set_option maxRecDepth 20000 in
theorem tb_X10_duePlace_2 (C : cC p s m args meth c cX10_duePlace 3 (some .int) A D Y tp dp RX10) {post : Int32 → cS → Prop} {R2 : Nat → Int32 → cS → Prop} (hR2 : ∀ (x0 : Nat) (x1 : Int32) (S : cS), R2 x0 x1 S → cG p l e (cRm 3 0 0 64) s m args below meth c A D Y 3 (MQ below (cQi post D Y A) args s 0 0 A) 0 0 2 [(0, .ref x0), (1, .int x1)] [] S) (x0 : Nat) (x1 : Int32) (S : cS) (h : k_X10_duePlace_2 post dp R2 x0 x1 S) : cG p l e (cRm 3 0 0 64) s m args below meth c A D Y 3 (MQ below (cQi post D Y A) args s 0 0 A) 0 0 2 [(0, .ref x0), (1, .int x1)] [] S := by
  unfold k_X10_duePlace_2 at h
  refine cg_iload_n C (i := 1) rfl 1 rfl dX10_duePlace_2 ?_
  refine cg_iconst C (x := nI 3) rfl dX10_duePlace_3 ?_
  refine cg_iadd C dX10_duePlace_4 ?_
  refine cg_aload_n C (i := 0) rfl 0 rfl dX10_duePlace_5 ?_
  obtain ⟨hc_6, h⟩ := h
  obtain ⟨b1, hb_b1, h⟩ := h
  refine cg_get C (k := 10) (j := 1) (.ref b1) hc_6.1 hc_6.2 (by decide) rfl (by decide) rfl (show cV _ 10 1 x0 = _ from congrArg va_rf hb_b1) cWs_wsX100 cl_X10_12 rfl dX10_duePlace_6 ?_
  obtain ⟨hc_9, h⟩ := h
  refine cg_calli C (t_Jx4a65c_size_8abf5 l b1 S dp h) cc_X10_22 hc_9.1 hc_9.2 (by decide) rfl rfl ⟨by decide, by decide⟩ ⟨by decide, by decide⟩ rfl (Nat.le_of_ble_eq_true rfl) dX10_duePlace_9 (fun r_2 S_2 h => ?_)
  refine cg_icmp_gt C 87 (by decide) dX10_duePlace_12 (fun c_ => ?_) (fun c_ => ?_)
  · have h := h.1 c_
    refine cg_iconst C (x := (-1)) rfl dX10_duePlace_87 ?_
    exact cg_iret C h dX10_duePlace_88 (by decide) (by decide)
  · have h := h.2 c_
    refine cg_aload_n C (i := 0) rfl 0 rfl dX10_duePlace_15 ?_
    obtain ⟨hc_16, h⟩ := h
    obtain ⟨b3, hb_b3, h⟩ := h
    refine cg_get C (k := 10) (j := 1) (.ref b3) hc_16.1 hc_16.2 (by decide) rfl (by decide) rfl (show cV _ 10 1 x0 = _ from congrArg va_rf hb_b3) cWs_wsX100 cl_X10_12 rfl dX10_duePlace_16 ?_
    refine cg_iload_n C (i := 1) rfl 1 rfl dX10_duePlace_19 ?_
    obtain ⟨hc_20, h⟩ := h
    refine cg_callr C (t_Jx4a65c_get_915e3 l b3 x1 S_2 dp h) cc_X10_26 hc_20.1 hc_20.2 (by decide) rfl rfl ⟨by decide, by decide⟩ ⟨by decide, by decide⟩ rfl (Nat.le_of_ble_eq_true rfl) dX10_duePlace_20 (fun r_4 S_4 h => ?_)
    obtain ⟨hc_23, h⟩ := h
    refine cg_ccast C (k := 2) hc_23.1 hc_23.2 (by decide) rfl cnc_X10_30 dX10_duePlace_23 ?_
    obtain ⟨hc_26, h⟩ := h
    obtain ⟨b5, hb_b5, h⟩ := h
    refine cg_get C (k := 2) (j := 0) (.ref b5) hc_26.1 hc_26.2 (by decide) rfl (by decide) rfl (show cV _ 2 0 r_4 = _ from congrArg va_rf hb_b5) cWs_wsX20 cl_X10_36 rfl dX10_duePlace_26 ?_
    obtain ⟨hc_29, h⟩ := h
    refine cg_calli C (t_X8_tier l b5 S_4 dp h) cc_X10_92 hc_29.1 hc_29.2 (by decide) rfl rfl ⟨by decide, by decide⟩ ⟨by decide, by decide⟩ rfl (Nat.le_of_ble_eq_true rfl) dX10_duePlace_29 (fun r_6 S_6 h => ?_)
    refine cg_istore_n C (i := 2) (lv' := [(2, .int r_6), (0, .ref x0), (1, .int x1)]) rfl (Nat.le_of_ble_eq_true rfl) rfl dX10_duePlace_32 ?_
    refine cg_aload_n C (i := 0) rfl 1 rfl dX10_duePlace_33 ?_
    obtain ⟨hc_34, h⟩ := h
    obtain ⟨b7, hb_b7, h⟩ := h
    refine cg_get C (k := 10) (j := 1) (.ref b7) hc_34.1 hc_34.2 (by decide) rfl (by decide) rfl (show cV _ 10 1 x0 = _ from congrArg va_rf hb_b7) cWs_wsX100 cl_X10_12 rfl dX10_duePlace_34 ?_
    refine cg_iload_n C (i := 1) rfl 2 rfl dX10_duePlace_37 ?_
    refine cg_iconst C (x := nI 1) rfl dX10_duePlace_38 ?_
    refine cg_iadd C dX10_duePlace_39 ?_
    obtain ⟨hc_40, h⟩ := h
    refine cg_callr C (t_Jx4a65c_get_915e3 l b7 ((x1 + ((nI 1)))) S_6 dp h) cc_X10_26 hc_40.1 hc_40.2 (by decide) rfl rfl ⟨by decide, by decide⟩ ⟨by decide, by decide⟩ rfl (Nat.le_of_ble_eq_true rfl) dX10_duePlace_40 (fun r_8 S_8 h => ?_)
    obtain ⟨hc_43, h⟩ := h
    refine cg_ccast C (k := 2) hc_43.1 hc_43.2 (by decide) rfl cnc_X10_30 dX10_duePlace_43 ?_
    obtain ⟨hc_46, h⟩ := h
    obtain ⟨b9, hb_b9, h⟩ := h
    refine cg_get C (k := 2) (j := 0) (.ref b9) hc_46.1 hc_46.2 (by decide) rfl (by decide) rfl (show cV _ 2 0 r_8 = _ from congrArg va_rf hb_b9) cWs_wsX20 cl_X10_36 rfl dX10_duePlace_46 ?_
    obtain ⟨hc_49, h⟩ := h
    refine cg_calli C (t_X8_tier l b9 S_8 dp h) cc_X10_92 hc_49.1 hc_49.2 (by decide) rfl rfl ⟨by decide, by decide⟩ ⟨by decide, by decide⟩ rfl (Nat.le_of_ble_eq_true rfl) dX10_duePlace_49 (fun r_10 S_10 h => ?_)
    refine cg_iload_n C (i := 2) rfl 0 rfl dX10_duePlace_52 ?_
    refine cg_icmp_ne C 81 (by decide) dX10_duePlace_53 (fun c_ => ?_) (fun c_ => ?_)
    · have h := h.1 c_
      exact cg_sub [1, 2] rfl (tb_X10_duePlace_81 C  hR2 x0 x1 S_10 h)
    · have h := h.2 c_
      refine cg_aload_n C (i := 0) rfl 1 rfl dX10_duePlace_56 ?_
      obtain ⟨hc_57, h⟩ := h
      obtain ⟨b12, hb_b12, h⟩ := h
      refine cg_get C (k := 10) (j := 1) (.ref b12) hc_57.1 hc_57.2 (by decide) rfl (by decide) rfl (show cV _ 10 1 x0 = _ from congrArg va_rf hb_b12) cWs_wsX100 cl_X10_12 rfl dX10_duePlace_57 ?_
      refine cg_iload_n C (i := 1) rfl 2 rfl dX10_duePlace_60 ?_
      refine cg_iconst C (x := nI 2) rfl dX10_duePlace_61 ?_
      refine cg_iadd C dX10_duePlace_62 ?_
      obtain ⟨hc_63, h⟩ := h
      refine cg_callr C (t_Jx4a65c_get_915e3 l b12 ((x1 + ((nI 2)))) S_10 dp h) cc_X10_26 hc_63.1 hc_63.2 (by decide) rfl rfl ⟨by decide, by decide⟩ ⟨by decide, by decide⟩ rfl (Nat.le_of_ble_eq_true rfl) dX10_duePlace_63 (fun r_13 S_13 h => ?_)
      obtain ⟨hc_66, h⟩ := h
      refine cg_ccast C (k := 2) hc_66.1 hc_66.2 (by decide) rfl cnc_X10_30 dX10_duePlace_66 ?_
      obtain ⟨hc_69, h⟩ := h
      obtain ⟨b14, hb_b14, h⟩ := h
      refine cg_get C (k := 2) (j := 0) (.ref b14) hc_69.1 hc_69.2 (by decide) rfl (by decide) rfl (show cV _ 2 0 r_13 = _ from congrArg va_rf hb_b14) cWs_wsX20 cl_X10_36 rfl dX10_duePlace_69 ?_
      obtain ⟨hc_72, h⟩ := h
      refine cg_calli C (t_X8_tier l b14 S_13 dp h) cc_X10_92 hc_72.1 hc_72.2 (by decide) rfl rfl ⟨by decide, by decide⟩ ⟨by decide, by decide⟩ rfl (Nat.le_of_ble_eq_true rfl) dX10_duePlace_72 (fun r_15 S_15 h => ?_)
      refine cg_iload_n C (i := 2) rfl 0 rfl dX10_duePlace_75 ?_
      refine cg_icmp_ne C 81 (by decide) dX10_duePlace_76 (fun c_ => ?_) (fun c_ => ?_)
      · have h := h.1 c_
        exact cg_sub [1, 2] rfl (tb_X10_duePlace_81 C  hR2 x0 x1 S_15 h)
      · have h := h.2 c_
        refine cg_iload_n C (i := 1) rfl 2 rfl dX10_duePlace_79 ?_
        exact cg_iret C h dX10_duePlace_80 (by decide) (by decide)
set_option maxRecDepth 20000 in
theorem tl_X10_duePlace_2 (C : cC p s m args meth c cX10_duePlace 3 (some .int) A D Y tp dp RX10) {post : Int32 → cS → Prop}   (x0 : Nat) (x1 : Int32) (S : cS) (h : k_X10_duePlace_2L post dp  x0 x1 S) : cG p l e (cRm 3 0 0 64) s m args below meth c A D Y 3 (MQ below (cQi post D Y A) args s 0 0 A) 0 0 2 [(0, .ref x0), (1, .int x1)] [] S :=
  h (fun y => cG p l e (cRm 3 0 0 64) s m args below meth c A D Y 3 (MQ below (cQi post D Y A) args s 0 0 A) 0 0 2 [(0, .ref (y.1)), (1, .int (y.2.1))] [] (y.2.2)) (fun y hy => tb_X10_duePlace_2 C   (fun b0 b1 S z => z) (y.1) (y.2.1) (y.2.2) hy)
end S_X10_duePlace
set_option maxHeartbeats 1000000 in
set_option maxRecDepth 20000 in
theorem t_X10_duePlace (l : Launch) (x0 : Nat) (S : cS) (dp : Nat) {P : Int32 → cS → Prop} (h : k_X10_duePlace P dp x0 S) : cMet (cQi P) l yX10_duePlace cX10_duePlace 3 (some .int) 3 0 0 64 [.ref x0] S dp := by
  intro D Y tp sz
  refine cg_body (by decide +kernel) (Nat.le_of_ble_eq_true rfl) ?_
  intro p e s m args below meth c C
  generalize va_A (cWd Y S) sz = A at C ⊢
  have C : cC p s m args meth c cX10_duePlace 3 (some .int) A D Y tp dp RX10 := C
  refine cg_lv (lv' := [(0, .ref x0)]) rfl ?_
  unfold k_X10_duePlace at h
  refine cg_iconst C (x := nI 0) rfl dX10_duePlace_0 ?_
  refine cg_istore_n C (i := 1) (lv' := [(1, .int ((nI 0))), (0, .ref x0)]) rfl (Nat.le_of_ble_eq_true rfl) rfl dX10_duePlace_1 ?_
  exact cg_sub [1, 0] rfl (tl_X10_duePlace_2 C   x0 (((nI 0))) S h)
