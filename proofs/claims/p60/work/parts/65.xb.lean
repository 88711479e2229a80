/-! the class: what throws, and the law's wrappers -/
def kx_X11_near_43 (E : String) (Q : cS → Prop) (dp : Nat) (mc ms : Nat)  (x0 : Nat) (x1 : Int32) (x2 : Int32) (x3 : Int32) (t0 : Int32) (t1 : Nat) (cd dd : Nat) (S : cS) : Prop :=
cA S t1 11 ∧ ((((cd ≤ mc ∧ dd ≤ ms) ∧ (k_X11_checkLeaf (fun S_10 => 
cA S_10 x0 11 ∧ ((∃ b11 : Nat, cr S_10 352 x0 = some b11 ∧ (cA S_10 b11 3 ∧ ((∃ mc12 ms13 : Nat, cd + mc12 ≤ mc ∧ dd + ms13 ≤ ms ∧ (k_X3_takePad (fun r_14 S_14 => 
(∃ mc15 ms16 : Nat, cd + mc12 + mc15 ≤ mc ∧ dd + ms13 + ms16 ≤ ms ∧ (k_X4_ofTokens (fun r_17 S_17 => 
cA S_17 r_17 4 ∧ (isZ x3 ∧ (∀ S18 : cS, S18 = cSi S_17 131 r_17 x3 → cA S18 x0 11 ∧ ((∃ b19 : Nat, cr S18 362 x0 = some b19 ∧ (cA S18 b19 6 ∧ ((∃ mc20 ms21 : Nat, cd + mc12 + mc15 + mc20 ≤ mc ∧ dd + ms13 + ms16 + ms21 ≤ ms ∧ (k_X6_putLeaf (fun r_22 S_22 => 
False) dp mc20 ms21 b19 r_17 S18))))))))) dp mc15 ms16 ((nI 1)) x1 x2 r_14 S_14))) dp mc12 ms13 b11 S_10))))))) dp t1 t0 S)) ∨
 (∃ mc8 ms9 : Nat, (cd + mc8 ≤ mc ∧ dd + ms9 ≤ ms) ∧ kx_X11_checkLeaf E Q dp mc8 ms9 t1 t0 S)))
def kx_X11_near (E : String) (Q : cS → Prop) (dp : Nat) (mc ms : Nat) (x0 : Nat) (x1 : Int32) (x2 : Int32) (x3 : Int32) (S : cS) : Prop :=
(((0 ≤ mc ∧ 0 ≤ ms) ∧ (k_X11_checkField (fun S_3 => 
((x2 < ((nI 1)) →
  E = "java/lang/IllegalArgumentException" ∧ (0 + 1 ≤ mc ∧ 0 + 6 ≤ ms) ∧ Q S_3) ∧
 (¬ x2 < ((nI 1)) →
  ((x2 ≤ ((nI 20)) →
    cA S_3 x0 11 ∧ ((∃ b4 : Nat, cr S_3 352 x0 = some b4 ∧ (cA S_3 b4 3 ∧ ((∃ mc5 ms6 : Nat, 0 + mc5 ≤ mc ∧ 0 + ms6 ≤ ms ∧ (k_X3_readPadTokens (fun r_7 S_7 => 
    ((¬ r_7 = ((nI 2)) →
      kx_X11_near_43 E Q dp mc ms  x0 x1 x2 x3 ((nI 0)) x0 (0 + mc5) (0 + ms6) S_7) ∧
     (r_7 = ((nI 2)) →
      kx_X11_near_43 E Q dp mc ms  x0 x1 x2 x3 ((nI 1)) x0 (0 + mc5) (0 + ms6) S_7))) dp mc5 ms6 b4 S_3))))))) ∧
   (¬ x2 ≤ ((nI 20)) →
    E = "java/lang/IllegalArgumentException" ∧ (0 + 1 ≤ mc ∧ 0 + 6 ≤ ms) ∧ Q S_3))))) dp x1 S)) ∨
 (∃ mc1 ms2 : Nat, (0 + mc1 ≤ mc ∧ 0 + ms2 ≤ ms) ∧ kx_X11_checkField E Q dp mc1 ms2 x1 S))
section Sx_X11_near
variable {p : Program} {l : Launch} {e : Env} {s : State} {m : MethodId} {args : Array Value} {below : List Frame} {meth : Method} {c : Code} {A : Nat → Prop} {D : va_G} {Y : cY} {tp dp : Nat}
set_option maxRecDepth 20000 in
theorem tbx_X11_near_43 {E : String} {mc ms : Nat} (C : cC p s m args meth c cX11_near 5 (some .int) A D Y tp dp RX11) (hlt : l.stackTraces = false) (hne : ∀ x ∈ c.exceptionTable.toList, False) {post : cS → Prop}   (x0 : Nat) (x1 : Int32) (x2 : Int32) (x3 : Int32) (t0 : Int32) (t1 : Nat) (cd dd : Nat) (S : cS) (h : kx_X11_near_43 E post dp mc ms  x0 x1 x2 x3 t0 t1 cd dd S) : cG p l e (cRm 9 mc ms 209) s m args below meth c A D Y 5 (vx_MQ below (fun _ _ _ _ => False) (cXB E post D Y A) args s mc ms A) cd dd 43 [(0, .ref x0), (1, .int x1), (2, .int x2), (3, .int x3)] [.int t0, .ref t1] S := by
  unfold kx_X11_near_43 at h
  obtain ⟨hc_43, h⟩ := h
  rcases h with h | ⟨mc8, ms9, hm_, h⟩
  · obtain ⟨hb_43, h⟩ := h
    refine cg_callv C (t_X11_checkLeaf l t1 t0 S dp h) cc_X11_327 hc_43.1 hc_43.2 (by decide) rfl rfl ⟨by decide, by decide⟩ hb_43 rfl (Nat.le_of_ble_eq_true rfl) dX11_near_43 (fun S_10 h => ?_)
    simp only [Nat.add_zero]
    refine cg_iconst C (x := nI 1) rfl dX11_near_46 ?_
    refine cg_iload_n C (i := 1) rfl 1 rfl dX11_near_47 ?_
    refine cg_iload_n C (i := 2) rfl 2 rfl dX11_near_48 ?_
    refine cg_aload_n C (i := 0) rfl 0 rfl dX11_near_49 ?_
    obtain ⟨hc_50, h⟩ := h
    obtain ⟨b11, hb_b11, h⟩ := h
    refine cg_get C (k := 11) (j := 0) (.ref b11) hc_50.1 hc_50.2 (by decide) rfl (by decide) rfl (show cV _ 11 0 x0 = _ from congrArg va_rf hb_b11) cWs_wsX110 cl_X11_10 rfl dX11_near_50 ?_
    obtain ⟨hc_53, h⟩ := h
    obtain ⟨mc12, ms13, hm_1, hm_2, h⟩ := h
    refine cg_callr C (t_X3_takePad l mc12 ms13 b11 S_10 dp h) cc_X11_125 hc_53.1 hc_53.2 (by decide) rfl rfl ⟨by decide, by decide⟩ ⟨hm_1, hm_2⟩ rfl (Nat.le_of_ble_eq_true rfl) dX11_near_53 (fun r_14 S_14 h => ?_)
    obtain ⟨mc15, ms16, hm_1, hm_2, h⟩ := h
    refine cg_callsr C (t_X4_ofTokens l mc15 ms16 ((nI 1)) x1 x2 r_14 S_14 dp h) cc_X11_333 rfl ⟨by decide, by decide⟩ ⟨hm_1, hm_2⟩ rfl (Nat.le_of_ble_eq_true rfl) dX11_near_56 (fun r_17 S_17 h => ?_)
    refine cg_astore (lv' := [(4, .ref r_17), (0, .ref x0), (1, .int x1), (2, .int x2), (3, .int x3)]) C (Nat.le_of_ble_eq_true rfl) rfl dX11_near_59 ?_
    refine cg_aload C 0 rfl dX11_near_61 ?_
    refine cg_iload_n C (i := 3) rfl 4 rfl dX11_near_63 ?_
    obtain ⟨hc_64, h⟩ := h
    obtain ⟨hz_64, h⟩ := h
    refine cg_puti C (k := 4) (j := 3) (ty := tyX4) (fty := .boolean) hc_64.1 hc_64.2 (by decide) rfl (by decide) rfl (by decide) rfl cWs_wsX40 tyX4_ok nmX4 cl_X11_345 rfl rfl rfl (isZ_nar hz_64) (isZ_fit hz_64) dX11_near_64 ?_
    refine cg_nm (fun S18 e_S18 => ?_)
    have h := h S18 e_S18
    refine cg_aload_n C (i := 0) rfl 1 rfl dX11_near_67 ?_
    obtain ⟨hc_68, h⟩ := h
    obtain ⟨b19, hb_b19, h⟩ := h
    refine cg_get C (k := 11) (j := 10) (.ref b19) hc_68.1 hc_68.2 (by decide) rfl (by decide) rfl (show cV _ 11 10 x0 = _ from congrArg va_rf hb_b19) cWs_wsX110 cl_X11_61 rfl dX11_near_68 ?_
    refine cg_aload C 0 rfl dX11_near_71 ?_
    obtain ⟨hc_73, h⟩ := h
    obtain ⟨mc20, ms21, hm_1, hm_2, h⟩ := h
    refine cg_calli C (t_X6_putLeaf l mc20 ms21 b19 r_17 S18 dp h) cc_X11_337 hc_73.1 hc_73.2 (by decide) rfl rfl ⟨by decide, by decide⟩ ⟨hm_1, hm_2⟩ rfl (Nat.le_of_ble_eq_true rfl) dX11_near_73 (fun r_22 S_22 h => ?_)
    exact h.elim
  · exact cg_callx C hne (tx_X11_checkLeaf l hlt E mc8 ms9 t1 t0 S dp h) cc_X11_327 hc_43.1 hc_43.2 (by decide) rfl rfl ⟨by decide, by decide⟩ hm_ rfl (Nat.le_of_ble_eq_true rfl) dX11_near_43 hm_ (fun _ z => z)
end Sx_X11_near
set_option maxHeartbeats 1000000 in
set_option maxRecDepth 20000 in
theorem tx_X11_near (l : Launch) (hlt : l.stackTraces = false) (E : String) (mc ms : Nat) (x0 : Nat) (x1 : Int32) (x2 : Int32) (x3 : Int32) (S : cS) (dp : Nat) {P : cS → Prop} (h : kx_X11_near E P dp mc ms x0 x1 x2 x3 S) : cMetX E P l yX11_near cX11_near 5 (some .int) 9 mc ms 209 [.ref x0, .int x1, .int x2, .int x3] S dp := by
  intro D Y tp sz
  refine cg_bodyX (by decide +kernel) (Nat.le_of_ble_eq_true rfl) ?_
  intro p e s m args below meth c C hne
  generalize va_A (cWd Y S) sz = A at C ⊢
  have C : cC p s m args meth c cX11_near 5 (some .int) A D Y tp dp RX11 := C
  refine cg_lv (lv' := [(0, .ref x0), (1, .int x1), (2, .int x2), (3, .int x3)]) rfl ?_
  unfold kx_X11_near at h
  refine cg_iload_n C (i := 1) rfl 1 rfl dX11_near_0 ?_
  rcases h with h | ⟨mc1, ms2, hm_, h⟩
  · obtain ⟨hb_1, h⟩ := h
    refine cg_callsv C (t_X11_checkField l x1 S dp h) cc_X11_152 rfl ⟨by decide, by decide⟩ hb_1 rfl (Nat.le_of_ble_eq_true rfl) dX11_near_1 (fun S_3 h => ?_)
    simp only [Nat.add_zero]
    refine cg_iload_n C (i := 2) rfl 2 rfl dX11_near_4 ?_
    refine cg_iconst C (x := nI 1) rfl dX11_near_5 ?_
    refine cg_icmp_lt C 15 (by decide) dX11_near_6 (fun c_ => ?_) (fun c_ => ?_)
    · have h := h.1 c_
      obtain ⟨hE_, hb_, h⟩ := h
      rw [hE_]
      exact cg_throw1W C hlt hne "the distance is out of range" ce_X11_100 cei_1 (by decide) dX11_near_15 dX11_near_18 dX11_near_19 dX11_near_22 dX11_near_25 (by decide) (Nat.le_of_ble_eq_true rfl) hb_ hb_ h
    · have h := h.2 c_
      refine cg_iload_n C (i := 2) rfl 2 rfl dX11_near_9 ?_
      refine cg_bipush C (x := nI 20) rfl dX11_near_10 ?_
      refine cg_icmp_le C 26 (by decide) dX11_near_12 (fun c_ => ?_) (fun c_ => ?_)
      · have h := h.1 c_
        refine cg_aload_n C (i := 0) rfl 0 rfl dX11_near_26 ?_
        refine cg_aload_n C (i := 0) rfl 0 rfl dX11_near_27 ?_
        obtain ⟨hc_28, h⟩ := h
        obtain ⟨b4, hb_b4, h⟩ := h
        refine cg_get C (k := 11) (j := 0) (.ref b4) hc_28.1 hc_28.2 (by decide) rfl (by decide) rfl (show cV _ 11 0 x0 = _ from congrArg va_rf hb_b4) cWs_wsX110 cl_X11_10 rfl dX11_near_28 ?_
        obtain ⟨hc_31, h⟩ := h
        obtain ⟨mc5, ms6, hm_1, hm_2, h⟩ := h
        refine cg_calli C (t_X3_readPadTokens l mc5 ms6 b4 S_3 dp h) cc_X11_324 hc_31.1 hc_31.2 (by decide) rfl rfl ⟨by decide, by decide⟩ ⟨hm_1, hm_2⟩ rfl (Nat.le_of_ble_eq_true rfl) dX11_near_31 (fun r_7 S_7 h => ?_)
        refine cg_iconst C (x := nI 2) rfl dX11_near_34 ?_
        refine cg_icmp_ne C 42 (by decide) dX11_near_35 (fun c_ => ?_) (fun c_ => ?_)
        · have h := h.1 c_
          refine cg_iconst C (x := nI 0) rfl dX11_near_42 ?_
          exact cg_sub [0, 1, 2, 3] rfl (tbx_X11_near_43 C hlt hne  x0 x1 x2 x3 ((nI 0)) x0 (0 + mc5) (0 + ms6) S_7 h)
        · have h := h.2 c_
          refine cg_iconst C (x := nI 1) rfl dX11_near_38 ?_
          refine cg_goto C 43 (by decide) dX11_near_39 ?_
          exact cg_sub [0, 1, 2, 3] rfl (tbx_X11_near_43 C hlt hne  x0 x1 x2 x3 ((nI 1)) x0 (0 + mc5) (0 + ms6) S_7 h)
      · have h := h.2 c_
        obtain ⟨hE_, hb_, h⟩ := h
        rw [hE_]
        exact cg_throw1W C hlt hne "the distance is out of range" ce_X11_100 cei_1 (by decide) dX11_near_15 dX11_near_18 dX11_near_19 dX11_near_22 dX11_near_25 (by decide) (Nat.le_of_ble_eq_true rfl) hb_ hb_ h
  · exact cg_callsx C hne (tx_X11_checkField l hlt E mc1 ms2 x1 S dp h) cc_X11_152 rfl ⟨by decide, by decide⟩ hm_ rfl (Nat.le_of_ble_eq_true rfl) dX11_near_1 hm_ (fun _ z => z)
def kx_X11_prefix_21 (E : String) (Q : cS → Prop) (dp : Nat) (mc ms : Nat)  (x0 : Nat) (x1 : Int32) (t0 : Int32) (t1 : Nat) (cd dd : Nat) (S : cS) : Prop :=
cA S t1 11 ∧ ((((cd ≤ mc ∧ dd ≤ ms) ∧ (k_X11_checkLeaf (fun S_8 => 
cA S_8 x0 11 ∧ ((∃ b9 : Nat, cr S_8 352 x0 = some b9 ∧ (cA S_8 b9 3 ∧ ((∃ mc10 ms11 : Nat, cd + mc10 ≤ mc ∧ dd + ms11 ≤ ms ∧ (k_X3_takePad (fun r_12 S_12 => 
cA S_12 x0 11 ∧ ((∃ b13 : Nat, cr S_12 362 x0 = some b13 ∧ (cA S_12 x0 11 ∧ ((∃ b14 : Nat, cr S_12 352 x0 = some b14 ∧ (cA S_12 b14 3 ∧ ((cd + mc10 ≤ mc ∧ dd + ms11 ≤ ms) ∧ (k_X3_wordAt (fun r_15 S_15 => 
(∃ mc16 ms17 : Nat, cd + mc10 + mc16 ≤ mc ∧ dd + ms11 + ms17 ≤ ms ∧ (k_X4_ofPrefix (fun r_18 S_18 => 
cA S_18 b13 6 ∧ ((∃ mc19 ms20 : Nat, cd + mc10 + mc16 + mc19 ≤ mc ∧ dd + ms11 + ms17 + ms20 ≤ ms ∧ (k_X6_putLeaf (fun r_21 S_21 => 
False) dp mc19 ms20 b13 r_18 S_18)))) dp mc16 ms17 x1 r_15 S_15))) dp b14 ((nI 0)) S_12))))))))) dp mc10 ms11 b9 S_8))))))) dp t1 t0 S)) ∨
 (∃ mc6 ms7 : Nat, (cd + mc6 ≤ mc ∧ dd + ms7 ≤ ms) ∧ kx_X11_checkLeaf E Q dp mc6 ms7 t1 t0 S)))
def kx_X11_prefix (E : String) (Q : cS → Prop) (dp : Nat) (mc ms : Nat) (x0 : Nat) (x1 : Int32) (S : cS) : Prop :=
(((0 ≤ mc ∧ 0 ≤ ms) ∧ (k_X11_checkField (fun S_3 => 
cA S_3 x0 11 ∧ ((∃ b4 : Nat, cr S_3 352 x0 = some b4 ∧ (cA S_3 b4 3 ∧ ((0 ≤ mc ∧ 0 ≤ ms) ∧ (k_X3_readPad (fun r_5 S_5 => 
((¬ r_5 = ((nI 1)) →
  kx_X11_prefix_21 E Q dp mc ms  x0 x1 ((nI 0)) x0 0 0 S_5) ∧
 (r_5 = ((nI 1)) →
  kx_X11_prefix_21 E Q dp mc ms  x0 x1 ((nI 1)) x0 0 0 S_5))) dp b4 S_3)))))) dp x1 S)) ∨
 (∃ mc1 ms2 : Nat, (0 + mc1 ≤ mc ∧ 0 + ms2 ≤ ms) ∧ kx_X11_checkField E Q dp mc1 ms2 x1 S))
section Sx_X11_prefix
variable {p : Program} {l : Launch} {e : Env} {s : State} {m : MethodId} {args : Array Value} {below : List Frame} {meth : Method} {c : Code} {A : Nat → Prop} {D : va_G} {Y : cY} {tp dp : Nat}
set_option maxRecDepth 20000 in
theorem tbx_X11_prefix_21 {E : String} {mc ms : Nat} (C : cC p s m args meth c cX11_prefix 2 (some .int) A D Y tp dp RX11) (hlt : l.stackTraces = false) (hne : ∀ x ∈ c.exceptionTable.toList, False) {post : cS → Prop}   (x0 : Nat) (x1 : Int32) (t0 : Int32) (t1 : Nat) (cd dd : Nat) (S : cS) (h : kx_X11_prefix_21 E post dp mc ms  x0 x1 t0 t1 cd dd S) : cG p l e (cRm 9 mc ms 209) s m args below meth c A D Y 2 (vx_MQ below (fun _ _ _ _ => False) (cXB E post D Y A) args s mc ms A) cd dd 21 [(0, .ref x0), (1, .int x1)] [.int t0, .ref t1] S := by
  unfold kx_X11_prefix_21 at h
  obtain ⟨hc_21, h⟩ := h
  rcases h with h | ⟨mc6, ms7, hm_, h⟩
  · obtain ⟨hb_21, h⟩ := h
    refine cg_callv C (t_X11_checkLeaf l t1 t0 S dp h) cc_X11_327 hc_21.1 hc_21.2 (by decide) rfl rfl ⟨by decide, by decide⟩ hb_21 rfl (Nat.le_of_ble_eq_true rfl) dX11_prefix_21 (fun S_8 h => ?_)
    simp only [Nat.add_zero]
    refine cg_aload_n C (i := 0) rfl 0 rfl dX11_prefix_24 ?_
    obtain ⟨hc_25, h⟩ := h
    obtain ⟨b9, hb_b9, h⟩ := h
    refine cg_get C (k := 11) (j := 0) (.ref b9) hc_25.1 hc_25.2 (by decide) rfl (by decide) rfl (show cV _ 11 0 x0 = _ from congrArg va_rf hb_b9) cWs_wsX110 cl_X11_10 rfl dX11_prefix_25 ?_
    obtain ⟨hc_28, h⟩ := h
    obtain ⟨mc10, ms11, hm_1, hm_2, h⟩ := h
    refine cg_callr C (t_X3_takePad l mc10 ms11 b9 S_8 dp h) cc_X11_125 hc_28.1 hc_28.2 (by decide) rfl rfl ⟨by decide, by decide⟩ ⟨hm_1, hm_2⟩ rfl (Nat.le_of_ble_eq_true rfl) dX11_prefix_28 (fun r_12 S_12 h => ?_)
    refine cg_pop C rfl dX11_prefix_31 ?_
    refine cg_aload_n C (i := 0) rfl 0 rfl dX11_prefix_32 ?_
    obtain ⟨hc_33, h⟩ := h
    obtain ⟨b13, hb_b13, h⟩ := h
    refine cg_get C (k := 11) (j := 10) (.ref b13) hc_33.1 hc_33.2 (by decide) rfl (by decide) rfl (show cV _ 11 10 x0 = _ from congrArg va_rf hb_b13) cWs_wsX110 cl_X11_61 rfl dX11_prefix_33 ?_
    refine cg_iload_n C (i := 1) rfl 1 rfl dX11_prefix_36 ?_
    refine cg_aload_n C (i := 0) rfl 0 rfl dX11_prefix_37 ?_
    obtain ⟨hc_38, h⟩ := h
    obtain ⟨b14, hb_b14, h⟩ := h
    refine cg_get C (k := 11) (j := 0) (.ref b14) hc_38.1 hc_38.2 (by decide) rfl (by decide) rfl (show cV _ 11 0 x0 = _ from congrArg va_rf hb_b14) cWs_wsX110 cl_X11_10 rfl dX11_prefix_38 ?_
    refine cg_iconst C (x := nI 0) rfl dX11_prefix_41 ?_
    obtain ⟨hc_42, h⟩ := h
    obtain ⟨hb_42, h⟩ := h
    refine cg_calll C (t_X3_wordAt l b14 ((nI 0)) S_12 dp h) cc_X11_348 hc_42.1 hc_42.2 (by decide) rfl rfl ⟨by decide, by decide⟩ hb_42 rfl (Nat.le_of_ble_eq_true rfl) dX11_prefix_42 (fun r_15 S_15 h => ?_)
    simp only [Nat.add_zero]
    obtain ⟨mc16, ms17, hm_1, hm_2, h⟩ := h
    refine cg_callsr C (t_X4_ofPrefix l mc16 ms17 x1 r_15 S_15 dp h) cc_X11_352 rfl ⟨by decide, by decide⟩ ⟨hm_1, hm_2⟩ rfl (Nat.le_of_ble_eq_true rfl) dX11_prefix_45 (fun r_18 S_18 h => ?_)
    obtain ⟨hc_48, h⟩ := h
    obtain ⟨mc19, ms20, hm_1, hm_2, h⟩ := h
    refine cg_calli C (t_X6_putLeaf l mc19 ms20 b13 r_18 S_18 dp h) cc_X11_337 hc_48.1 hc_48.2 (by decide) rfl rfl ⟨by decide, by decide⟩ ⟨hm_1, hm_2⟩ rfl (Nat.le_of_ble_eq_true rfl) dX11_prefix_48 (fun r_21 S_21 h => ?_)
    exact h.elim
  · exact cg_callx C hne (tx_X11_checkLeaf l hlt E mc6 ms7 t1 t0 S dp h) cc_X11_327 hc_21.1 hc_21.2 (by decide) rfl rfl ⟨by decide, by decide⟩ hm_ rfl (Nat.le_of_ble_eq_true rfl) dX11_prefix_21 hm_ (fun _ z => z)
end Sx_X11_prefix
set_option maxHeartbeats 1000000 in
set_option maxRecDepth 20000 in
theorem tx_X11_prefix (l : Launch) (hlt : l.stackTraces = false) (E : String) (mc ms : Nat) (x0 : Nat) (x1 : Int32) (S : cS) (dp : Nat) {P : cS → Prop} (h : kx_X11_prefix E P dp mc ms x0 x1 S) : cMetX E P l yX11_prefix cX11_prefix 2 (some .int) 9 mc ms 209 [.ref x0, .int x1] S dp := by
  intro D Y tp sz
  refine cg_bodyX (by decide +kernel) (Nat.le_of_ble_eq_true rfl) ?_
  intro p e s m args below meth c C hne
  generalize va_A (cWd Y S) sz = A at C ⊢
  have C : cC p s m args meth c cX11_prefix 2 (some .int) A D Y tp dp RX11 := C
  refine cg_lv (lv' := [(0, .ref x0), (1, .int x1)]) rfl ?_
  unfold kx_X11_prefix at h
  refine cg_iload_n C (i := 1) rfl 1 rfl dX11_prefix_0 ?_
  rcases h with h | ⟨mc1, ms2, hm_, h⟩
  · obtain ⟨hb_1, h⟩ := h
    refine cg_callsv C (t_X11_checkField l x1 S dp h) cc_X11_152 rfl ⟨by decide, by decide⟩ hb_1 rfl (Nat.le_of_ble_eq_true rfl) dX11_prefix_1 (fun S_3 h => ?_)
    simp only [Nat.add_zero]
    refine cg_aload_n C (i := 0) rfl 0 rfl dX11_prefix_4 ?_
    refine cg_aload_n C (i := 0) rfl 0 rfl dX11_prefix_5 ?_
    obtain ⟨hc_6, h⟩ := h
    obtain ⟨b4, hb_b4, h⟩ := h
    refine cg_get C (k := 11) (j := 0) (.ref b4) hc_6.1 hc_6.2 (by decide) rfl (by decide) rfl (show cV _ 11 0 x0 = _ from congrArg va_rf hb_b4) cWs_wsX110 cl_X11_10 rfl dX11_prefix_6 ?_
    obtain ⟨hc_9, h⟩ := h
    obtain ⟨hb_9, h⟩ := h
    refine cg_calli C (t_X3_readPad l b4 S_3 dp h) cc_X11_129 hc_9.1 hc_9.2 (by decide) rfl rfl ⟨by decide, by decide⟩ hb_9 rfl (Nat.le_of_ble_eq_true rfl) dX11_prefix_9 (fun r_5 S_5 h => ?_)
    simp only [Nat.add_zero]
    refine cg_iconst C (x := nI 1) rfl dX11_prefix_12 ?_
    refine cg_icmp_ne C 20 (by decide) dX11_prefix_13 (fun c_ => ?_) (fun c_ => ?_)
    · have h := h.1 c_
      refine cg_iconst C (x := nI 0) rfl dX11_prefix_20 ?_
      exact cg_sub [0, 1] rfl (tbx_X11_prefix_21 C hlt hne  x0 x1 ((nI 0)) x0 0 0 S_5 h)
    · have h := h.2 c_
      refine cg_iconst C (x := nI 1) rfl dX11_prefix_16 ?_
      refine cg_goto C 21 (by decide) dX11_prefix_17 ?_
      exact cg_sub [0, 1] rfl (tbx_X11_prefix_21 C hlt hne  x0 x1 ((nI 1)) x0 0 0 S_5 h)
  · exact cg_callsx C hne (tx_X11_checkField l hlt E mc1 ms2 x1 S dp h) cc_X11_152 rfl ⟨by decide, by decide⟩ hm_ rfl (Nat.le_of_ble_eq_true rfl) dX11_prefix_1 hm_ (fun _ z => z)
def kx_X11_wild (E : String) (Q : cS → Prop) (dp : Nat) (mc ms : Nat) (x0 : Nat) (x1 : Int32) (S : cS) : Prop :=
(((0 ≤ mc ∧ 0 ≤ ms) ∧ (k_X11_checkField (fun S_3 => 
cA S_3 x0 11 ∧ ((∃ b4 : Nat, cr S_3 352 x0 = some b4 ∧ (cA S_3 b4 3 ∧ ((∃ b5 : Nat, cr S_3 96 b4 = some b5 ∧ ((0 ≤ mc ∧ 0 ≤ ms) ∧ (k_X4_isPattern (fun r_6 S_6 => 
cA S_6 x0 11 ∧ ((((0 ≤ mc ∧ 0 ≤ ms) ∧ (k_X11_checkLeaf (fun S_9 => 
cA S_9 x0 11 ∧ ((∃ b10 : Nat, cr S_9 362 x0 = some b10 ∧ (cA S_9 x0 11 ∧ ((∃ b11 : Nat, cr S_9 352 x0 = some b11 ∧ (cA S_9 b11 3 ∧ ((∃ mc12 ms13 : Nat, 0 + mc12 ≤ mc ∧ 0 + ms13 ≤ ms ∧ (k_X3_takePad (fun r_14 S_14 => 
(∃ mc15 ms16 : Nat, 0 + mc12 + mc15 ≤ mc ∧ 0 + ms13 + ms16 ≤ ms ∧ (k_X4_ofPattern (fun r_17 S_17 => 
cA S_17 b10 6 ∧ ((∃ mc18 ms19 : Nat, 0 + mc12 + mc15 + mc18 ≤ mc ∧ 0 + ms13 + ms16 + ms19 ≤ ms ∧ (k_X6_putLeaf (fun r_20 S_20 => 
False) dp mc18 ms19 b10 r_17 S_17)))) dp mc15 ms16 x1 r_14 S_14))) dp mc12 ms13 b11 S_9)))))))))) dp x0 r_6 S_6)) ∨
 (∃ mc7 ms8 : Nat, (0 + mc7 ≤ mc ∧ 0 + ms8 ≤ ms) ∧ kx_X11_checkLeaf E Q dp mc7 ms8 x0 r_6 S_6)))) dp b5 S_3)))))))) dp x1 S)) ∨
 (∃ mc1 ms2 : Nat, (0 + mc1 ≤ mc ∧ 0 + ms2 ≤ ms) ∧ kx_X11_checkField E Q dp mc1 ms2 x1 S))
set_option maxHeartbeats 1000000 in
set_option maxRecDepth 20000 in
theorem tx_X11_wild (l : Launch) (hlt : l.stackTraces = false) (E : String) (mc ms : Nat) (x0 : Nat) (x1 : Int32) (S : cS) (dp : Nat) {P : cS → Prop} (h : kx_X11_wild E P dp mc ms x0 x1 S) : cMetX E P l yX11_wild cX11_wild 2 (some .int) 9 mc ms 209 [.ref x0, .int x1] S dp := by
  intro D Y tp sz
  refine cg_bodyX (by decide +kernel) (Nat.le_of_ble_eq_true rfl) ?_
  intro p e s m args below meth c C hne
  generalize va_A (cWd Y S) sz = A at C ⊢
  have C : cC p s m args meth c cX11_wild 2 (some .int) A D Y tp dp RX11 := C
  refine cg_lv (lv' := [(0, .ref x0), (1, .int x1)]) rfl ?_
  unfold kx_X11_wild at h
  refine cg_iload_n C (i := 1) rfl 1 rfl dX11_wild_0 ?_
  rcases h with h | ⟨mc1, ms2, hm_, h⟩
  · obtain ⟨hb_1, h⟩ := h
    refine cg_callsv C (t_X11_checkField l x1 S dp h) cc_X11_152 rfl ⟨by decide, by decide⟩ hb_1 rfl (Nat.le_of_ble_eq_true rfl) dX11_wild_1 (fun S_3 h => ?_)
    simp only [Nat.add_zero]
    refine cg_aload_n C (i := 0) rfl 0 rfl dX11_wild_4 ?_
    refine cg_aload_n C (i := 0) rfl 0 rfl dX11_wild_5 ?_
    obtain ⟨hc_6, h⟩ := h
    obtain ⟨b4, hb_b4, h⟩ := h
    refine cg_get C (k := 11) (j := 0) (.ref b4) hc_6.1 hc_6.2 (by decide) rfl (by decide) rfl (show cV _ 11 0 x0 = _ from congrArg va_rf hb_b4) cWs_wsX110 cl_X11_10 rfl dX11_wild_6 ?_
    obtain ⟨hc_9, h⟩ := h
    obtain ⟨b5, hb_b5, h⟩ := h
    refine cg_get C (k := 3) (j := 0) (.ref b5) hc_9.1 hc_9.2 (by decide) rfl (by decide) rfl (show cV _ 3 0 b4 = _ from congrArg va_rf hb_b5) cWs_wsX30 cl_X11_107 rfl dX11_wild_9 ?_
    obtain ⟨hb_12, h⟩ := h
    refine cg_callsi C (t_X4_isPattern l b5 S_3 dp h) cc_X11_356 rfl ⟨by decide, by decide⟩ hb_12 rfl (Nat.le_of_ble_eq_true rfl) dX11_wild_12 (fun r_6 S_6 h => ?_)
    simp only [Nat.add_zero]
    obtain ⟨hc_15, h⟩ := h
    rcases h with h | ⟨mc7, ms8, hm_, h⟩
    · obtain ⟨hb_15, h⟩ := h
      refine cg_callv C (t_X11_checkLeaf l x0 r_6 S_6 dp h) cc_X11_327 hc_15.1 hc_15.2 (by decide) rfl rfl ⟨by decide, by decide⟩ hb_15 rfl (Nat.le_of_ble_eq_true rfl) dX11_wild_15 (fun S_9 h => ?_)
      simp only [Nat.add_zero]
      refine cg_aload_n C (i := 0) rfl 0 rfl dX11_wild_18 ?_
      obtain ⟨hc_19, h⟩ := h
      obtain ⟨b10, hb_b10, h⟩ := h
      refine cg_get C (k := 11) (j := 10) (.ref b10) hc_19.1 hc_19.2 (by decide) rfl (by decide) rfl (show cV _ 11 10 x0 = _ from congrArg va_rf hb_b10) cWs_wsX110 cl_X11_61 rfl dX11_wild_19 ?_
      refine cg_iload_n C (i := 1) rfl 1 rfl dX11_wild_22 ?_
      refine cg_aload_n C (i := 0) rfl 0 rfl dX11_wild_23 ?_
      obtain ⟨hc_24, h⟩ := h
      obtain ⟨b11, hb_b11, h⟩ := h
      refine cg_get C (k := 11) (j := 0) (.ref b11) hc_24.1 hc_24.2 (by decide) rfl (by decide) rfl (show cV _ 11 0 x0 = _ from congrArg va_rf hb_b11) cWs_wsX110 cl_X11_10 rfl dX11_wild_24 ?_
      obtain ⟨hc_27, h⟩ := h
      obtain ⟨mc12, ms13, hm_1, hm_2, h⟩ := h
      refine cg_callr C (t_X3_takePad l mc12 ms13 b11 S_9 dp h) cc_X11_125 hc_27.1 hc_27.2 (by decide) rfl rfl ⟨by decide, by decide⟩ ⟨hm_1, hm_2⟩ rfl (Nat.le_of_ble_eq_true rfl) dX11_wild_27 (fun r_14 S_14 h => ?_)
      obtain ⟨mc15, ms16, hm_1, hm_2, h⟩ := h
      refine cg_callsr C (t_X4_ofPattern l mc15 ms16 x1 r_14 S_14 dp h) cc_X11_360 rfl ⟨by decide, by decide⟩ ⟨hm_1, hm_2⟩ rfl (Nat.le_of_ble_eq_true rfl) dX11_wild_30 (fun r_17 S_17 h => ?_)
      obtain ⟨hc_33, h⟩ := h
      obtain ⟨mc18, ms19, hm_1, hm_2, h⟩ := h
      refine cg_calli C (t_X6_putLeaf l mc18 ms19 b10 r_17 S_17 dp h) cc_X11_337 hc_33.1 hc_33.2 (by decide) rfl rfl ⟨by decide, by decide⟩ ⟨hm_1, hm_2⟩ rfl (Nat.le_of_ble_eq_true rfl) dX11_wild_33 (fun r_20 S_20 h => ?_)
      exact h.elim
    · exact cg_callx C hne (tx_X11_checkLeaf l hlt E mc7 ms8 x0 r_6 S_6 dp h) cc_X11_327 hc_15.1 hc_15.2 (by decide) rfl rfl ⟨by decide, by decide⟩ hm_ rfl (Nat.le_of_ble_eq_true rfl) dX11_wild_15 hm_ (fun _ z => z)
  · exact cg_callsx C hne (tx_X11_checkField l hlt E mc1 ms2 x1 S dp h) cc_X11_152 rfl ⟨by decide, by decide⟩ hm_ rfl (Nat.le_of_ble_eq_true rfl) dX11_wild_1 hm_ (fun _ z => z)
def kx_X11_fuzzy_41 (E : String) (Q : cS → Prop) (dp : Nat) (mc ms : Nat)  (x0 : Nat) (x1 : Int32) (x2 : Int32) (t0 : Int32) (t1 : Nat) (cd dd : Nat) (S : cS) : Prop :=
cA S t1 11 ∧ ((((cd ≤ mc ∧ dd ≤ ms) ∧ (k_X11_checkLeaf (fun S_8 => 
cA S_8 x0 11 ∧ ((∃ b9 : Nat, cr S_8 352 x0 = some b9 ∧ (cA S_8 b9 3 ∧ ((∃ mc10 ms11 : Nat, cd + mc10 ≤ mc ∧ dd + ms11 ≤ ms ∧ (k_X3_takePad (fun r_12 S_12 => 
cA S_12 x0 11 ∧ ((∃ b13 : Nat, cr S_12 362 x0 = some b13 ∧ (cA S_12 x0 11 ∧ ((∃ b14 : Nat, cr S_12 352 x0 = some b14 ∧ (cA S_12 b14 3 ∧ ((cd + mc10 ≤ mc ∧ dd + ms11 ≤ ms) ∧ (k_X3_wordAt (fun r_15 S_15 => 
(∃ mc16 ms17 : Nat, cd + mc10 + mc16 ≤ mc ∧ dd + ms11 + ms17 ≤ ms ∧ (k_X4_ofEdits (fun r_18 S_18 => 
cA S_18 b13 6 ∧ ((∃ mc19 ms20 : Nat, cd + mc10 + mc16 + mc19 ≤ mc ∧ dd + ms11 + ms17 + ms20 ≤ ms ∧ (k_X6_putLeaf (fun r_21 S_21 => 
False) dp mc19 ms20 b13 r_18 S_18)))) dp mc16 ms17 x1 x2 r_15 S_15))) dp b14 ((nI 0)) S_12))))))))) dp mc10 ms11 b9 S_8))))))) dp t1 t0 S)) ∨
 (∃ mc6 ms7 : Nat, (cd + mc6 ≤ mc ∧ dd + ms7 ≤ ms) ∧ kx_X11_checkLeaf E Q dp mc6 ms7 t1 t0 S)))
def kx_X11_fuzzy (E : String) (Q : cS → Prop) (dp : Nat) (mc ms : Nat) (x0 : Nat) (x1 : Int32) (x2 : Int32) (S : cS) : Prop :=
(((0 ≤ mc ∧ 0 ≤ ms) ∧ (k_X11_checkField (fun S_3 => 
((x2 < 0 →
  E = "java/lang/IllegalArgumentException" ∧ (0 + 1 ≤ mc ∧ 0 + 6 ≤ ms) ∧ Q S_3) ∧
 (¬ x2 < 0 →
  ((x2 ≤ ((nI 2)) →
    cA S_3 x0 11 ∧ ((∃ b4 : Nat, cr S_3 352 x0 = some b4 ∧ (cA S_3 b4 3 ∧ ((0 ≤ mc ∧ 0 ≤ ms) ∧ (k_X3_readPad (fun r_5 S_5 => 
    ((¬ r_5 = ((nI 1)) →
      kx_X11_fuzzy_41 E Q dp mc ms  x0 x1 x2 ((nI 0)) x0 0 0 S_5) ∧
     (r_5 = ((nI 1)) →
      kx_X11_fuzzy_41 E Q dp mc ms  x0 x1 x2 ((nI 1)) x0 0 0 S_5))) dp b4 S_3)))))) ∧
   (¬ x2 ≤ ((nI 2)) →
    E = "java/lang/IllegalArgumentException" ∧ (0 + 1 ≤ mc ∧ 0 + 6 ≤ ms) ∧ Q S_3))))) dp x1 S)) ∨
 (∃ mc1 ms2 : Nat, (0 + mc1 ≤ mc ∧ 0 + ms2 ≤ ms) ∧ kx_X11_checkField E Q dp mc1 ms2 x1 S))
section Sx_X11_fuzzy
variable {p : Program} {l : Launch} {e : Env} {s : State} {m : MethodId} {args : Array Value} {below : List Frame} {meth : Method} {c : Code} {A : Nat → Prop} {D : va_G} {Y : cY} {tp dp : Nat}
set_option maxRecDepth 20000 in
theorem tbx_X11_fuzzy_41 {E : String} {mc ms : Nat} (C : cC p s m args meth c cX11_fuzzy 3 (some .int) A D Y tp dp RX11) (hlt : l.stackTraces = false) (hne : ∀ x ∈ c.exceptionTable.toList, False) {post : cS → Prop}   (x0 : Nat) (x1 : Int32) (x2 : Int32) (t0 : Int32) (t1 : Nat) (cd dd : Nat) (S : cS) (h : kx_X11_fuzzy_41 E post dp mc ms  x0 x1 x2 t0 t1 cd dd S) : cG p l e (cRm 9 mc ms 209) s m args below meth c A D Y 3 (vx_MQ below (fun _ _ _ _ => False) (cXB E post D Y A) args s mc ms A) cd dd 41 [(0, .ref x0), (1, .int x1), (2, .int x2)] [.int t0, .ref t1] S := by
  unfold kx_X11_fuzzy_41 at h
  obtain ⟨hc_41, h⟩ := h
  rcases h with h | ⟨mc6, ms7, hm_, h⟩
  · obtain ⟨hb_41, h⟩ := h
    refine cg_callv C (t_X11_checkLeaf l t1 t0 S dp h) cc_X11_327 hc_41.1 hc_41.2 (by decide) rfl rfl ⟨by decide, by decide⟩ hb_41 rfl (Nat.le_of_ble_eq_true rfl) dX11_fuzzy_41 (fun S_8 h => ?_)
    simp only [Nat.add_zero]
    refine cg_aload_n C (i := 0) rfl 0 rfl dX11_fuzzy_44 ?_
    obtain ⟨hc_45, h⟩ := h
    obtain ⟨b9, hb_b9, h⟩ := h
    refine cg_get C (k := 11) (j := 0) (.ref b9) hc_45.1 hc_45.2 (by decide) rfl (by decide) rfl (show cV _ 11 0 x0 = _ from congrArg va_rf hb_b9) cWs_wsX110 cl_X11_10 rfl dX11_fuzzy_45 ?_
    obtain ⟨hc_48, h⟩ := h
    obtain ⟨mc10, ms11, hm_1, hm_2, h⟩ := h
    refine cg_callr C (t_X3_takePad l mc10 ms11 b9 S_8 dp h) cc_X11_125 hc_48.1 hc_48.2 (by decide) rfl rfl ⟨by decide, by decide⟩ ⟨hm_1, hm_2⟩ rfl (Nat.le_of_ble_eq_true rfl) dX11_fuzzy_48 (fun r_12 S_12 h => ?_)
    refine cg_pop C rfl dX11_fuzzy_51 ?_
    refine cg_aload_n C (i := 0) rfl 0 rfl dX11_fuzzy_52 ?_
    obtain ⟨hc_53, h⟩ := h
    obtain ⟨b13, hb_b13, h⟩ := h
    refine cg_get C (k := 11) (j := 10) (.ref b13) hc_53.1 hc_53.2 (by decide) rfl (by decide) rfl (show cV _ 11 10 x0 = _ from congrArg va_rf hb_b13) cWs_wsX110 cl_X11_61 rfl dX11_fuzzy_53 ?_
    refine cg_iload_n C (i := 1) rfl 1 rfl dX11_fuzzy_56 ?_
    refine cg_iload_n C (i := 2) rfl 2 rfl dX11_fuzzy_57 ?_
    refine cg_aload_n C (i := 0) rfl 0 rfl dX11_fuzzy_58 ?_
    obtain ⟨hc_59, h⟩ := h
    obtain ⟨b14, hb_b14, h⟩ := h
    refine cg_get C (k := 11) (j := 0) (.ref b14) hc_59.1 hc_59.2 (by decide) rfl (by decide) rfl (show cV _ 11 0 x0 = _ from congrArg va_rf hb_b14) cWs_wsX110 cl_X11_10 rfl dX11_fuzzy_59 ?_
    refine cg_iconst C (x := nI 0) rfl dX11_fuzzy_62 ?_
    obtain ⟨hc_63, h⟩ := h
    obtain ⟨hb_63, h⟩ := h
    refine cg_calll C (t_X3_wordAt l b14 ((nI 0)) S_12 dp h) cc_X11_348 hc_63.1 hc_63.2 (by decide) rfl rfl ⟨by decide, by decide⟩ hb_63 rfl (Nat.le_of_ble_eq_true rfl) dX11_fuzzy_63 (fun r_15 S_15 h => ?_)
    simp only [Nat.add_zero]
    obtain ⟨mc16, ms17, hm_1, hm_2, h⟩ := h
    refine cg_callsr C (t_X4_ofEdits l mc16 ms17 x1 x2 r_15 S_15 dp h) cc_X11_366 rfl ⟨by decide, by decide⟩ ⟨hm_1, hm_2⟩ rfl (Nat.le_of_ble_eq_true rfl) dX11_fuzzy_66 (fun r_18 S_18 h => ?_)
    obtain ⟨hc_69, h⟩ := h
    obtain ⟨mc19, ms20, hm_1, hm_2, h⟩ := h
    refine cg_calli C (t_X6_putLeaf l mc19 ms20 b13 r_18 S_18 dp h) cc_X11_337 hc_69.1 hc_69.2 (by decide) rfl rfl ⟨by decide, by decide⟩ ⟨hm_1, hm_2⟩ rfl (Nat.le_of_ble_eq_true rfl) dX11_fuzzy_69 (fun r_21 S_21 h => ?_)
    exact h.elim
  · exact cg_callx C hne (tx_X11_checkLeaf l hlt E mc6 ms7 t1 t0 S dp h) cc_X11_327 hc_41.1 hc_41.2 (by decide) rfl rfl ⟨by decide, by decide⟩ hm_ rfl (Nat.le_of_ble_eq_true rfl) dX11_fuzzy_41 hm_ (fun _ z => z)
end Sx_X11_fuzzy
set_option maxHeartbeats 1000000 in
set_option maxRecDepth 20000 in
theorem tx_X11_fuzzy (l : Launch) (hlt : l.stackTraces = false) (E : String) (mc ms : Nat) (x0 : Nat) (x1 : Int32) (x2 : Int32) (S : cS) (dp : Nat) {P : cS → Prop} (h : kx_X11_fuzzy E P dp mc ms x0 x1 x2 S) : cMetX E P l yX11_fuzzy cX11_fuzzy 3 (some .int) 9 mc ms 209 [.ref x0, .int x1, .int x2] S dp := by
  intro D Y tp sz
  refine cg_bodyX (by decide +kernel) (Nat.le_of_ble_eq_true rfl) ?_
  intro p e s m args below meth c C hne
  generalize va_A (cWd Y S) sz = A at C ⊢
  have C : cC p s m args meth c cX11_fuzzy 3 (some .int) A D Y tp dp RX11 := C
  refine cg_lv (lv' := [(0, .ref x0), (1, .int x1), (2, .int x2)]) rfl ?_
  unfold kx_X11_fuzzy at h
  refine cg_iload_n C (i := 1) rfl 1 rfl dX11_fuzzy_0 ?_
  rcases h with h | ⟨mc1, ms2, hm_, h⟩
  · obtain ⟨hb_1, h⟩ := h
    refine cg_callsv C (t_X11_checkField l x1 S dp h) cc_X11_152 rfl ⟨by decide, by decide⟩ hb_1 rfl (Nat.le_of_ble_eq_true rfl) dX11_fuzzy_1 (fun S_3 h => ?_)
    simp only [Nat.add_zero]
    refine cg_iload_n C (i := 2) rfl 2 rfl dX11_fuzzy_4 ?_
    refine cg_if_lt C 13 (by decide) dX11_fuzzy_5 (fun c_ => ?_) (fun c_ => ?_)
    · have h := h.1 c_
      obtain ⟨hE_, hb_, h⟩ := h
      rw [hE_]
      exact cg_throw1W C hlt hne "the number of edits is out of range" ce_X11_100 cei_1 (by decide) dX11_fuzzy_13 dX11_fuzzy_16 dX11_fuzzy_17 dX11_fuzzy_20 dX11_fuzzy_23 (by decide) (Nat.le_of_ble_eq_true rfl) hb_ hb_ h
    · have h := h.2 c_
      refine cg_iload_n C (i := 2) rfl 2 rfl dX11_fuzzy_8 ?_
      refine cg_iconst C (x := nI 2) rfl dX11_fuzzy_9 ?_
      refine cg_icmp_le C 24 (by decide) dX11_fuzzy_10 (fun c_ => ?_) (fun c_ => ?_)
      · have h := h.1 c_
        refine cg_aload_n C (i := 0) rfl 0 rfl dX11_fuzzy_24 ?_
        refine cg_aload_n C (i := 0) rfl 0 rfl dX11_fuzzy_25 ?_
        obtain ⟨hc_26, h⟩ := h
        obtain ⟨b4, hb_b4, h⟩ := h
        refine cg_get C (k := 11) (j := 0) (.ref b4) hc_26.1 hc_26.2 (by decide) rfl (by decide) rfl (show cV _ 11 0 x0 = _ from congrArg va_rf hb_b4) cWs_wsX110 cl_X11_10 rfl dX11_fuzzy_26 ?_
        obtain ⟨hc_29, h⟩ := h
        obtain ⟨hb_29, h⟩ := h
        refine cg_calli C (t_X3_readPad l b4 S_3 dp h) cc_X11_129 hc_29.1 hc_29.2 (by decide) rfl rfl ⟨by decide, by decide⟩ hb_29 rfl (Nat.le_of_ble_eq_true rfl) dX11_fuzzy_29 (fun r_5 S_5 h => ?_)
        simp only [Nat.add_zero]
        refine cg_iconst C (x := nI 1) rfl dX11_fuzzy_32 ?_
        refine cg_icmp_ne C 40 (by decide) dX11_fuzzy_33 (fun c_ => ?_) (fun c_ => ?_)
        · have h := h.1 c_
          refine cg_iconst C (x := nI 0) rfl dX11_fuzzy_40 ?_
          exact cg_sub [0, 1, 2] rfl (tbx_X11_fuzzy_41 C hlt hne  x0 x1 x2 ((nI 0)) x0 0 0 S_5 h)
        · have h := h.2 c_
          refine cg_iconst C (x := nI 1) rfl dX11_fuzzy_36 ?_
          refine cg_goto C 41 (by decide) dX11_fuzzy_37 ?_
          exact cg_sub [0, 1, 2] rfl (tbx_X11_fuzzy_41 C hlt hne  x0 x1 x2 ((nI 1)) x0 0 0 S_5 h)
      · have h := h.2 c_
        obtain ⟨hE_, hb_, h⟩ := h
        rw [hE_]
        exact cg_throw1W C hlt hne "the number of edits is out of range" ce_X11_100 cei_1 (by decide) dX11_fuzzy_13 dX11_fuzzy_16 dX11_fuzzy_17 dX11_fuzzy_20 dX11_fuzzy_23 (by decide) (Nat.le_of_ble_eq_true rfl) hb_ hb_ h
  · exact cg_callsx C hne (tx_X11_checkField l hlt E mc1 ms2 x1 S dp h) cc_X11_152 rfl ⟨by decide, by decide⟩ hm_ rfl (Nat.le_of_ble_eq_true rfl) dX11_fuzzy_1 hm_ (fun _ z => z)
def kx_X11_checkParts (E : String) (Q : cS → Prop) (dp : Nat) (mc ms : Nat) (x0 : Nat) (x1 : Int32) (S : cS) : Prop :=
cA S x0 11 ∧ ((∃ b1 : Nat, cr S 362 x0 = some b1 ∧ (cA S b1 6 ∧ (((x1 ≤ ((ci S 195 b1)) →
  False) ∧
 (¬ x1 ≤ ((ci S 195 b1)) →
  E = "java/lang/IllegalStateException" ∧ (0 + 1 ≤ mc ∧ 0 + 6 ≤ ms) ∧ Q S))))))
set_option maxHeartbeats 1000000 in
set_option maxRecDepth 20000 in
theorem tx_X11_checkParts (l : Launch) (hlt : l.stackTraces = false) (E : String) (mc ms : Nat) (x0 : Nat) (x1 : Int32) (S : cS) (dp : Nat) {P : cS → Prop} (h : kx_X11_checkParts E P dp mc ms x0 x1 S) : cMetX E P l yX11_checkParts cX11_checkParts 2 none 6 mc ms 82 [.ref x0, .int x1] S dp := by
  intro D Y tp sz
  refine cg_bodyX (by decide +kernel) (Nat.le_of_ble_eq_true rfl) ?_
  intro p e s m args below meth c C hne
  generalize va_A (cWd Y S) sz = A at C ⊢
  have C : cC p s m args meth c cX11_checkParts 2 none A D Y tp dp RX11 := C
  refine cg_lv (lv' := [(0, .ref x0), (1, .int x1)]) rfl ?_
  unfold kx_X11_checkParts at h
  refine cg_aload_n C (i := 0) rfl 0 rfl dX11_checkParts_0 ?_
  obtain ⟨hc_1, h⟩ := h
  obtain ⟨b1, hb_b1, h⟩ := h
  refine cg_get C (k := 11) (j := 10) (.ref b1) hc_1.1 hc_1.2 (by decide) rfl (by decide) rfl (show cV _ 11 10 x0 = _ from congrArg va_rf hb_b1) cWs_wsX110 cl_X11_61 rfl dX11_checkParts_1 ?_
  obtain ⟨hc_4, h⟩ := h
  refine cg_get C (k := 6) (j := 3) (.int (ci S 195 b1)) hc_4.1 hc_4.2 (by decide) rfl (by decide) rfl rfl cWs_wsX60 cl_X11_385 rfl dX11_checkParts_4 ?_
  refine cg_iload_n C (i := 1) rfl 1 rfl dX11_checkParts_7 ?_
  refine cg_icmp_ge C 22 (by decide) dX11_checkParts_8 (fun c_ => ?_) (fun c_ => ?_)
  · have h := h.1 c_
    exact h.elim
  · have h := h.2 c_
    obtain ⟨hE_, hb_, h⟩ := h
    rw [hE_]
    exact cg_throw2W C hlt hne "there are fewer parts" ce_X11_116 cei_2 (by decide) dX11_checkParts_11 dX11_checkParts_14 dX11_checkParts_15 dX11_checkParts_18 dX11_checkParts_21 (by decide) (Nat.le_of_ble_eq_true rfl) hb_ hb_ h
def kx_X11_least (E : String) (Q : cS → Prop) (dp : Nat) (mc ms : Nat) (x0 : Nat) (x1 : Int32) (x2 : Int32) (S : cS) : Prop :=
((x1 < ((nI 2)) →
  E = "java/lang/IllegalArgumentException" ∧ (0 + 1 ≤ mc ∧ 0 + 6 ≤ ms) ∧ Q S) ∧
 (¬ x1 < ((nI 2)) →
  ((((nI 8)) < x1 →
    E = "java/lang/IllegalArgumentException" ∧ (0 + 1 ≤ mc ∧ 0 + 6 ≤ ms) ∧ Q S) ∧
   (¬ ((nI 8)) < x1 →
    ((x2 < ((nI 1)) →
      E = "java/lang/IllegalArgumentException" ∧ (0 + 1 ≤ mc ∧ 0 + 6 ≤ ms) ∧ Q S) ∧
     (¬ x2 < ((nI 1)) →
      ((x2 ≤ x1 →
        cA S x0 11 ∧ ((((0 ≤ mc ∧ 0 ≤ ms) ∧ (k_X11_checkParts (fun S_3 => 
        cA S_3 x0 11 ∧ ((∃ b4 : Nat, cr S_3 362 x0 = some b4 ∧ ((∃ mc5 ms6 : Nat, 0 + mc5 ≤ mc ∧ 0 + ms6 ≤ ms ∧ (k_X4_ofParts (fun r_7 S_7 => 
        cA S_7 b4 6 ∧ ((∃ mc8 ms9 : Nat, 0 + mc5 + mc8 ≤ mc ∧ 0 + ms6 + ms9 ≤ ms ∧ (k_X6_putGroup (fun r_10 S_10 => 
        False) dp mc8 ms9 b4 r_7 S_7)))) dp mc5 ms6 ((nI 4)) x1 x2 S_3)))))) dp x0 x1 S)) ∨
         (∃ mc1 ms2 : Nat, (0 + mc1 ≤ mc ∧ 0 + ms2 ≤ ms) ∧ kx_X11_checkParts E Q dp mc1 ms2 x0 x1 S)))) ∧
       (¬ x2 ≤ x1 →
        E = "java/lang/IllegalArgumentException" ∧ (0 + 1 ≤ mc ∧ 0 + 6 ≤ ms) ∧ Q S))))))))
set_option maxHeartbeats 1000000 in
set_option maxRecDepth 20000 in
theorem tx_X11_least (l : Launch) (hlt : l.stackTraces = false) (E : String) (mc ms : Nat) (x0 : Nat) (x1 : Int32) (x2 : Int32) (S : cS) (dp : Nat) {P : cS → Prop} (h : kx_X11_least E P dp mc ms x0 x1 x2 S) : cMetX E P l yX11_least cX11_least 3 (some .int) 9 mc ms 209 [.ref x0, .int x1, .int x2] S dp := by
  intro D Y tp sz
  refine cg_bodyX (by decide +kernel) (Nat.le_of_ble_eq_true rfl) ?_
  intro p e s m args below meth c C hne
  generalize va_A (cWd Y S) sz = A at C ⊢
  have C : cC p s m args meth c cX11_least 3 (some .int) A D Y tp dp RX11 := C
  refine cg_lv (lv' := [(0, .ref x0), (1, .int x1), (2, .int x2)]) rfl ?_
  unfold kx_X11_least at h
  refine cg_iload_n C (i := 1) rfl 1 rfl dX11_least_0 ?_
  refine cg_iconst C (x := nI 2) rfl dX11_least_1 ?_
  refine cg_icmp_lt C 21 (by decide) dX11_least_2 (fun c_ => ?_) (fun c_ => ?_)
  · have h := h.1 c_
    obtain ⟨hE_, hb_, h⟩ := h
    rw [hE_]
    exact cg_throw1W C hlt hne "the number of parts is out of range" ce_X11_100 cei_1 (by decide) dX11_least_21 dX11_least_24 dX11_least_25 dX11_least_28 dX11_least_31 (by decide) (Nat.le_of_ble_eq_true rfl) hb_ hb_ h
  · have h := h.2 c_
    refine cg_iload_n C (i := 1) rfl 1 rfl dX11_least_5 ?_
    refine cg_bipush C (x := nI 8) rfl dX11_least_6 ?_
    refine cg_icmp_gt C 21 (by decide) dX11_least_8 (fun c_ => ?_) (fun c_ => ?_)
    · have h := h.1 c_
      obtain ⟨hE_, hb_, h⟩ := h
      rw [hE_]
      exact cg_throw1W C hlt hne "the number of parts is out of range" ce_X11_100 cei_1 (by decide) dX11_least_21 dX11_least_24 dX11_least_25 dX11_least_28 dX11_least_31 (by decide) (Nat.le_of_ble_eq_true rfl) hb_ hb_ h
    · have h := h.2 c_
      refine cg_iload_n C (i := 2) rfl 2 rfl dX11_least_11 ?_
      refine cg_iconst C (x := nI 1) rfl dX11_least_12 ?_
      refine cg_icmp_lt C 21 (by decide) dX11_least_13 (fun c_ => ?_) (fun c_ => ?_)
      · have h := h.1 c_
        obtain ⟨hE_, hb_, h⟩ := h
        rw [hE_]
        exact cg_throw1W C hlt hne "the number of parts is out of range" ce_X11_100 cei_1 (by decide) dX11_least_21 dX11_least_24 dX11_least_25 dX11_least_28 dX11_least_31 (by decide) (Nat.le_of_ble_eq_true rfl) hb_ hb_ h
      · have h := h.2 c_
        refine cg_iload_n C (i := 2) rfl 2 rfl dX11_least_16 ?_
        refine cg_iload_n C (i := 1) rfl 1 rfl dX11_least_17 ?_
        refine cg_icmp_le C 32 (by decide) dX11_least_18 (fun c_ => ?_) (fun c_ => ?_)
        · have h := h.1 c_
          refine cg_aload_n C (i := 0) rfl 0 rfl dX11_least_32 ?_
          refine cg_iload_n C (i := 1) rfl 1 rfl dX11_least_33 ?_
          obtain ⟨hc_34, h⟩ := h
          rcases h with h | ⟨mc1, ms2, hm_, h⟩
          · obtain ⟨hb_34, h⟩ := h
            refine cg_callv C (t_X11_checkParts l x0 x1 S dp h) cc_X11_372 hc_34.1 hc_34.2 (by decide) rfl rfl ⟨by decide, by decide⟩ hb_34 rfl (Nat.le_of_ble_eq_true rfl) dX11_least_34 (fun S_3 h => ?_)
            simp only [Nat.add_zero]
            refine cg_aload_n C (i := 0) rfl 0 rfl dX11_least_37 ?_
            obtain ⟨hc_38, h⟩ := h
            obtain ⟨b4, hb_b4, h⟩ := h
            refine cg_get C (k := 11) (j := 10) (.ref b4) hc_38.1 hc_38.2 (by decide) rfl (by decide) rfl (show cV _ 11 10 x0 = _ from congrArg va_rf hb_b4) cWs_wsX110 cl_X11_61 rfl dX11_least_38 ?_
            refine cg_iconst C (x := nI 4) rfl dX11_least_41 ?_
            refine cg_iload_n C (i := 1) rfl 1 rfl dX11_least_42 ?_
            refine cg_iload_n C (i := 2) rfl 2 rfl dX11_least_43 ?_
            obtain ⟨mc5, ms6, hm_1, hm_2, h⟩ := h
            refine cg_callsr C (t_X4_ofParts l mc5 ms6 ((nI 4)) x1 x2 S_3 dp h) cc_X11_375 rfl ⟨by decide, by decide⟩ ⟨hm_1, hm_2⟩ rfl (Nat.le_of_ble_eq_true rfl) dX11_least_44 (fun r_7 S_7 h => ?_)
            obtain ⟨hc_47, h⟩ := h
            obtain ⟨mc8, ms9, hm_1, hm_2, h⟩ := h
            refine cg_calli C (t_X6_putGroup l mc8 ms9 b4 r_7 S_7 dp h) cc_X11_379 hc_47.1 hc_47.2 (by decide) rfl rfl ⟨by decide, by decide⟩ ⟨hm_1, hm_2⟩ rfl (Nat.le_of_ble_eq_true rfl) dX11_least_47 (fun r_10 S_10 h => ?_)
            exact h.elim
          · exact cg_callx C hne (tx_X11_checkParts l hlt E mc1 ms2 x0 x1 S dp h) cc_X11_372 hc_34.1 hc_34.2 (by decide) rfl rfl ⟨by decide, by decide⟩ hm_ rfl (Nat.le_of_ble_eq_true rfl) dX11_least_34 hm_ (fun _ z => z)
        · have h := h.2 c_
          obtain ⟨hE_, hb_, h⟩ := h
          rw [hE_]
          exact cg_throw1W C hlt hne "the number of parts is out of range" ce_X11_100 cei_1 (by decide) dX11_least_21 dX11_least_24 dX11_least_25 dX11_least_28 dX11_least_31 (by decide) (Nat.le_of_ble_eq_true rfl) hb_ hb_ h
def kx_X11_but (E : String) (Q : cS → Prop) (dp : Nat) (mc ms : Nat) (x0 : Nat) (S : cS) : Prop :=
cA S x0 11 ∧ ((((0 ≤ mc ∧ 0 ≤ ms) ∧ (k_X11_checkParts (fun S_3 => 
cA S_3 x0 11 ∧ ((∃ b4 : Nat, cr S_3 362 x0 = some b4 ∧ (cA S_3 b4 6 ∧ ((0 ≤ mc ∧ 0 ≤ ms) ∧ (k_X6_setLastAside (fun S_5 => 
cA S_5 x0 11 ∧ ((∃ b6 : Nat, cr S_5 362 x0 = some b6 ∧ ((∃ mc7 ms8 : Nat, 0 + mc7 ≤ mc ∧ 0 + ms8 ≤ ms ∧ (k_X4_ofParts (fun r_9 S_9 => 
cA S_9 b6 6 ∧ ((∃ mc10 ms11 : Nat, 0 + mc7 + mc10 ≤ mc ∧ 0 + ms8 + ms11 ≤ ms ∧ (k_X6_putGroup (fun r_12 S_12 => 
False) dp mc10 ms11 b6 r_9 S_9)))) dp mc7 ms8 ((nI 5)) ((nI 2)) ((nI 1)) S_5)))))) dp b4 S_3)))))) dp x0 ((nI 2)) S)) ∨
 (∃ mc1 ms2 : Nat, (0 + mc1 ≤ mc ∧ 0 + ms2 ≤ ms) ∧ kx_X11_checkParts E Q dp mc1 ms2 x0 ((nI 2)) S)))
set_option maxHeartbeats 1000000 in
set_option maxRecDepth 20000 in
theorem tx_X11_but (l : Launch) (hlt : l.stackTraces = false) (E : String) (mc ms : Nat) (x0 : Nat) (S : cS) (dp : Nat) {P : cS → Prop} (h : kx_X11_but E P dp mc ms x0 S) : cMetX E P l yX11_but cX11_but 1 (some .int) 9 mc ms 209 [.ref x0] S dp := by
  intro D Y tp sz
  refine cg_bodyX (by decide +kernel) (Nat.le_of_ble_eq_true rfl) ?_
  intro p e s m args below meth c C hne
  generalize va_A (cWd Y S) sz = A at C ⊢
  have C : cC p s m args meth c cX11_but 1 (some .int) A D Y tp dp RX11 := C
  refine cg_lv (lv' := [(0, .ref x0)]) rfl ?_
  unfold kx_X11_but at h
  refine cg_aload_n C (i := 0) rfl 0 rfl dX11_but_0 ?_
  refine cg_iconst C (x := nI 2) rfl dX11_but_1 ?_
  obtain ⟨hc_2, h⟩ := h
  rcases h with h | ⟨mc1, ms2, hm_, h⟩
  · obtain ⟨hb_2, h⟩ := h
    refine cg_callv C (t_X11_checkParts l x0 ((nI 2)) S dp h) cc_X11_372 hc_2.1 hc_2.2 (by decide) rfl rfl ⟨by decide, by decide⟩ hb_2 rfl (Nat.le_of_ble_eq_true rfl) dX11_but_2 (fun S_3 h => ?_)
    simp only [Nat.add_zero]
    refine cg_aload_n C (i := 0) rfl 0 rfl dX11_but_5 ?_
    obtain ⟨hc_6, h⟩ := h
    obtain ⟨b4, hb_b4, h⟩ := h
    refine cg_get C (k := 11) (j := 10) (.ref b4) hc_6.1 hc_6.2 (by decide) rfl (by decide) rfl (show cV _ 11 10 x0 = _ from congrArg va_rf hb_b4) cWs_wsX110 cl_X11_61 rfl dX11_but_6 ?_
    obtain ⟨hc_9, h⟩ := h
    obtain ⟨hb_9, h⟩ := h
    refine cg_callv C (t_X6_setLastAside l b4 S_3 dp h) cc_X11_382 hc_9.1 hc_9.2 (by decide) rfl rfl ⟨by decide, by decide⟩ hb_9 rfl (Nat.le_of_ble_eq_true rfl) dX11_but_9 (fun S_5 h => ?_)
    simp only [Nat.add_zero]
    refine cg_aload_n C (i := 0) rfl 0 rfl dX11_but_12 ?_
    obtain ⟨hc_13, h⟩ := h
    obtain ⟨b6, hb_b6, h⟩ := h
    refine cg_get C (k := 11) (j := 10) (.ref b6) hc_13.1 hc_13.2 (by decide) rfl (by decide) rfl (show cV _ 11 10 x0 = _ from congrArg va_rf hb_b6) cWs_wsX110 cl_X11_61 rfl dX11_but_13 ?_
    refine cg_iconst C (x := nI 5) rfl dX11_but_16 ?_
    refine cg_iconst C (x := nI 2) rfl dX11_but_17 ?_
    refine cg_iconst C (x := nI 1) rfl dX11_but_18 ?_
    obtain ⟨mc7, ms8, hm_1, hm_2, h⟩ := h
    refine cg_callsr C (t_X4_ofParts l mc7 ms8 ((nI 5)) ((nI 2)) ((nI 1)) S_5 dp h) cc_X11_375 rfl ⟨by decide, by decide⟩ ⟨hm_1, hm_2⟩ rfl (Nat.le_of_ble_eq_true rfl) dX11_but_19 (fun r_9 S_9 h => ?_)
    obtain ⟨hc_22, h⟩ := h
    obtain ⟨mc10, ms11, hm_1, hm_2, h⟩ := h
    refine cg_calli C (t_X6_putGroup l mc10 ms11 b6 r_9 S_9 dp h) cc_X11_379 hc_22.1 hc_22.2 (by decide) rfl rfl ⟨by decide, by decide⟩ ⟨hm_1, hm_2⟩ rfl (Nat.le_of_ble_eq_true rfl) dX11_but_22 (fun r_12 S_12 h => ?_)
    exact h.elim
  · exact cg_callx C hne (tx_X11_checkParts l hlt E mc1 ms2 x0 ((nI 2)) S dp h) cc_X11_372 hc_2.1 hc_2.2 (by decide) rfl rfl ⟨by decide, by decide⟩ hm_ rfl (Nat.le_of_ble_eq_true rfl) dX11_but_2 hm_ (fun _ z => z)
def kx_X11_query (E : String) (Q : cS → Prop) (dp : Nat) (mc ms : Nat) (x0 : Nat) (S : cS) : Prop :=
cA S x0 11 ∧ ((∃ b1 : Nat, cr S 362 x0 = some b1 ∧ (cA S b1 6 ∧ (((¬ ((ci S 195 b1)) = ((nI 1)) →
  E = "java/lang/IllegalStateException" ∧ (0 + 1 ≤ mc ∧ 0 + 6 ≤ ms) ∧ Q S) ∧
 (((ci S 195 b1)) = ((nI 1)) →
  cA S x0 11 ∧ ((∃ b2 : Nat, cr S 363 x0 = some b2 ∧ (cA S b2 12 ∧ ((0 ≤ mc ∧ 0 ≤ ms) ∧ (k_Jx4a65c_size_8abf5 (fun r_3 S_3 => 
  ((r_3 < ((nI 40)) →
    cA S_3 x0 11 ∧ ((∃ b4 : Nat, cr S_3 363 x0 = some b4 ∧ (cA S_3 x0 11 ∧ ((∃ b5 : Nat, cr S_3 362 x0 = some b5 ∧ (cA S_3 b4 12 ∧ ((∃ mc6 ms7 : Nat, 0 + mc6 ≤ mc ∧ 0 + ms7 ≤ ms ∧ (k_Jx4a65c_add_9ea2d (fun r_8 S_8 => 
    (0 + mc6 + 1 ≤ mc ∧ 0 + ms7 + 5 ≤ ms) ∧ (∀ q9 : Nat, q9 ∉ cL S_8 → ∀ S10 : cS, S10 = cNew S_8 q9 6 → (∃ mc11 ms12 : Nat, 0 + mc6 + 1 + mc11 ≤ mc ∧ 0 + ms7 + 5 + ms12 ≤ ms ∧ (k_X6_init (fun S_13 => 
    cA S_13 x0 11 ∧ (∀ S14 : cS, S14 = cSr S_13 362 x0 ((some q9)) → cA S14 x0 11 ∧ ((∃ b15 : Nat, cr S14 363 x0 = some b15 ∧ (cA S14 b15 12 ∧ ((0 + mc6 + 1 + mc11 ≤ mc ∧ 0 + ms7 + 5 + ms12 ≤ ms) ∧ (k_Jx4a65c_size_8abf5 (fun r_16 S_16 => 
    False) dp b15 S14))))))) dp mc11 ms12 q9 S10)))) dp mc6 ms7 b4 b5 S_3)))))))))) ∧
   (¬ r_3 < ((nI 40)) →
    E = "java/lang/IllegalStateException" ∧ (0 + 1 ≤ mc ∧ 0 + 6 ≤ ms) ∧ Q S_3))) dp b2 S)))))))))))
set_option maxHeartbeats 1000000 in
set_option maxRecDepth 20000 in
theorem tx_X11_query (l : Launch) (hlt : l.stackTraces = false) (E : String) (mc ms : Nat) (x0 : Nat) (S : cS) (dp : Nat) {P : cS → Prop} (h : kx_X11_query E P dp mc ms x0 S) : cMetX E P l yX11_query cX11_query 1 (some .int) 8 mc ms 188 [.ref x0] S dp := by
  intro D Y tp sz
  refine cg_bodyX (by decide +kernel) (Nat.le_of_ble_eq_true rfl) ?_
  intro p e s m args below meth c C hne
  generalize va_A (cWd Y S) sz = A at C ⊢
  have C : cC p s m args meth c cX11_query 1 (some .int) A D Y tp dp RX11 := C
  refine cg_lv (lv' := [(0, .ref x0)]) rfl ?_
  unfold kx_X11_query at h
  refine cg_aload_n C (i := 0) rfl 0 rfl dX11_query_0 ?_
  obtain ⟨hc_1, h⟩ := h
  obtain ⟨b1, hb_b1, h⟩ := h
  refine cg_get C (k := 11) (j := 10) (.ref b1) hc_1.1 hc_1.2 (by decide) rfl (by decide) rfl (show cV _ 11 10 x0 = _ from congrArg va_rf hb_b1) cWs_wsX110 cl_X11_61 rfl dX11_query_1 ?_
  obtain ⟨hc_4, h⟩ := h
  refine cg_get C (k := 6) (j := 3) (.int (ci S 195 b1)) hc_4.1 hc_4.2 (by decide) rfl (by decide) rfl rfl cWs_wsX60 cl_X11_385 rfl dX11_query_4 ?_
  refine cg_iconst C (x := nI 1) rfl dX11_query_7 ?_
  refine cg_icmp_ne C 23 (by decide) dX11_query_8 (fun c_ => ?_) (fun c_ => ?_)
  · have h := h.1 c_
    obtain ⟨hE_, hb_, h⟩ := h
    rw [hE_]
    exact cg_throw2W C hlt hne "no query can be made now" ce_X11_116 cei_2 (by decide) dX11_query_23 dX11_query_26 dX11_query_27 dX11_query_30 dX11_query_33 (by decide) (Nat.le_of_ble_eq_true rfl) hb_ hb_ h
  · have h := h.2 c_
    refine cg_aload_n C (i := 0) rfl 0 rfl dX11_query_11 ?_
    obtain ⟨hc_12, h⟩ := h
    obtain ⟨b2, hb_b2, h⟩ := h
    refine cg_get C (k := 11) (j := 11) (.ref b2) hc_12.1 hc_12.2 (by decide) rfl (by decide) rfl (show cV _ 11 11 x0 = _ from congrArg va_rf hb_b2) cWs_wsX110 cl_X11_65 rfl dX11_query_12 ?_
    obtain ⟨hc_15, h⟩ := h
    obtain ⟨hb_15, h⟩ := h
    refine cg_calli C (t_Jx4a65c_size_8abf5 l b2 S dp h) cc_X11_180 hc_15.1 hc_15.2 (by decide) rfl rfl ⟨by decide, by decide⟩ hb_15 rfl (Nat.le_of_ble_eq_true rfl) dX11_query_15 (fun r_3 S_3 h => ?_)
    simp only [Nat.add_zero]
    refine cg_bipush C (x := nI 40) rfl dX11_query_18 ?_
    refine cg_icmp_lt C 34 (by decide) dX11_query_20 (fun c_ => ?_) (fun c_ => ?_)
    · have h := h.1 c_
      refine cg_aload_n C (i := 0) rfl 0 rfl dX11_query_34 ?_
      obtain ⟨hc_35, h⟩ := h
      obtain ⟨b4, hb_b4, h⟩ := h
      refine cg_get C (k := 11) (j := 11) (.ref b4) hc_35.1 hc_35.2 (by decide) rfl (by decide) rfl (show cV _ 11 11 x0 = _ from congrArg va_rf hb_b4) cWs_wsX110 cl_X11_65 rfl dX11_query_35 ?_
      refine cg_aload_n C (i := 0) rfl 0 rfl dX11_query_38 ?_
      obtain ⟨hc_39, h⟩ := h
      obtain ⟨b5, hb_b5, h⟩ := h
      refine cg_get C (k := 11) (j := 10) (.ref b5) hc_39.1 hc_39.2 (by decide) rfl (by decide) rfl (show cV _ 11 10 x0 = _ from congrArg va_rf hb_b5) cWs_wsX110 cl_X11_61 rfl dX11_query_39 ?_
      obtain ⟨hc_42, h⟩ := h
      obtain ⟨mc6, ms7, hm_1, hm_2, h⟩ := h
      refine cg_calli C (t_Jx4a65c_add_9ea2d l mc6 ms7 b4 b5 S_3 dp h) cc_X11_200 hc_42.1 hc_42.2 (by decide) rfl rfl ⟨by decide, by decide⟩ ⟨hm_1, hm_2⟩ rfl (Nat.le_of_ble_eq_true rfl) dX11_query_42 (fun r_8 S_8 h => ?_)
      refine cg_pop C rfl dX11_query_45 ?_
      refine cg_aload_n C (i := 0) rfl 0 rfl dX11_query_46 ?_
      obtain ⟨hc_47, h⟩ := h
      refine cg_new C (k := 6) (N := 5) (fs := [.null, .null, .null, .int 0, .null]) (by decide) rfl cWs_wsX60 tyX6_ok cn_X11_58 ci_X6 ct_X6 (fun j_ hj_ => by rcases (show j_ = 0 ∨ j_ = 1 ∨ j_ = 2 ∨ j_ = 3 ∨ j_ = 4 by omega) with rfl | rfl | rfl | rfl | rfl <;> rfl) rfl hc_47.1 hc_47.2 dX11_query_47 (fun q9 hf_q9 => ?_)
      have h := h q9 hf_q9
      refine cg_nm (fun S10 e_S10 => ?_)
      have h := h S10 e_S10
      refine cg_dup C rfl dX11_query_50 ?_
      obtain ⟨mc11, ms12, hm_1, hm_2, h⟩ := h
      refine cg_callIN C (t_X6_init l mc11 ms12 q9 S10 dp h) czn_X11_60 rfl ⟨by decide, by decide⟩ ⟨hm_1, hm_2⟩ rfl (Nat.le_of_ble_eq_true rfl) dX11_query_51 (fun S_13 h => ?_)
      obtain ⟨hc_54, h⟩ := h
      refine cg_putr C (k := 11) (j := 10) (x := (some q9)) (ty := tyX11) (fty := tyX11 10) hc_54.1 hc_54.2 (by decide) rfl (by decide) rfl (by decide) rfl cWs_wsX110 tyX11_ok nmX11 cl_X11_61 rfl rfl rfl rfl rfl dX11_query_54 ?_
      refine cg_nm (fun S14 e_S14 => ?_)
      have h := h S14 e_S14
      refine cg_aload_n C (i := 0) rfl 0 rfl dX11_query_57 ?_
      obtain ⟨hc_58, h⟩ := h
      obtain ⟨b15, hb_b15, h⟩ := h
      refine cg_get C (k := 11) (j := 11) (.ref b15) hc_58.1 hc_58.2 (by decide) rfl (by decide) rfl (show cV _ 11 11 x0 = _ from congrArg va_rf hb_b15) cWs_wsX110 cl_X11_65 rfl dX11_query_58 ?_
      obtain ⟨hc_61, h⟩ := h
      obtain ⟨hb_61, h⟩ := h
      refine cg_calli C (t_Jx4a65c_size_8abf5 l b15 S14 dp h) cc_X11_180 hc_61.1 hc_61.2 (by decide) rfl rfl ⟨by decide, by decide⟩ hb_61 rfl (Nat.le_of_ble_eq_true rfl) dX11_query_61 (fun r_16 S_16 h => ?_)
      simp only [Nat.add_zero]
      refine cg_iconst C (x := nI 1) rfl dX11_query_64 ?_
      refine cg_isub C dX11_query_65 ?_
      exact h.elim
    · have h := h.2 c_
      obtain ⟨hE_, hb_, h⟩ := h
      rw [hE_]
      exact cg_throw2W C hlt hne "no query can be made now" ce_X11_116 cei_2 (by decide) dX11_query_23 dX11_query_26 dX11_query_27 dX11_query_30 dX11_query_33 (by decide) (Nat.le_of_ble_eq_true rfl) hb_ hb_ h
def kx_X11_queryOf (E : String) (Q : cS → Prop) (dp : Nat) (mc ms : Nat) (x0 : Nat) (x1 : Int32) (S : cS) : Prop :=
((x1 < 0 →
  E = "java/lang/IndexOutOfBoundsException" ∧ (0 + 1 ≤ mc ∧ 0 + 6 ≤ ms) ∧ Q S) ∧
 (¬ x1 < 0 →
  cA S x0 11 ∧ ((∃ b1 : Nat, cr S 363 x0 = some b1 ∧ (cA S b1 12 ∧ ((0 ≤ mc ∧ 0 ≤ ms) ∧ (k_Jx4a65c_size_8abf5 (fun r_2 S_2 => 
  ((x1 < r_2 →
    cA S_2 x0 11 ∧ ((∃ b3 : Nat, cr S_2 363 x0 = some b3 ∧ (cA S_2 b3 12 ∧ ((0 ≤ mc ∧ 0 ≤ ms) ∧ (k_Jx4a65c_get_915e3 (fun r_4 S_4 => 
    cA S_4 r_4 6 ∧ (False)) dp b3 x1 S_2)))))) ∧
   (¬ x1 < r_2 →
    E = "java/lang/IndexOutOfBoundsException" ∧ (0 + 1 ≤ mc ∧ 0 + 6 ≤ ms) ∧ Q S_2))) dp b1 S)))))))
set_option maxHeartbeats 1000000 in
set_option maxRecDepth 20000 in
theorem tx_X11_queryOf (l : Launch) (hlt : l.stackTraces = false) (E : String) (mc ms : Nat) (x0 : Nat) (x1 : Int32) (S : cS) (dp : Nat) {P : cS → Prop} (h : kx_X11_queryOf E P dp mc ms x0 x1 S) : cMetX E P l yX11_queryOf cX11_queryOf 2 (some (.object "SearchMill$Query")) 6 mc ms 82 [.ref x0, .int x1] S dp := by
  intro D Y tp sz
  refine cg_bodyX (by decide +kernel) (Nat.le_of_ble_eq_true rfl) ?_
  intro p e s m args below meth c C hne
  generalize va_A (cWd Y S) sz = A at C ⊢
  have C : cC p s m args meth c cX11_queryOf 2 (some (.object "SearchMill$Query")) A D Y tp dp RX11 := C
  refine cg_lv (lv' := [(0, .ref x0), (1, .int x1)]) rfl ?_
  unfold kx_X11_queryOf at h
  refine cg_iload_n C (i := 1) rfl 1 rfl dX11_queryOf_0 ?_
  refine cg_if_lt C 15 (by decide) dX11_queryOf_1 (fun c_ => ?_) (fun c_ => ?_)
  · have h := h.1 c_
    obtain ⟨hE_, hb_, h⟩ := h
    rw [hE_]
    exact cg_throw3W C hlt hne "there is no such query" ce_X11_269 cei_3 (by decide) dX11_queryOf_15 dX11_queryOf_18 dX11_queryOf_19 dX11_queryOf_22 dX11_queryOf_25 (by decide) (Nat.le_of_ble_eq_true rfl) hb_ hb_ h
  · have h := h.2 c_
    refine cg_iload_n C (i := 1) rfl 1 rfl dX11_queryOf_4 ?_
    refine cg_aload_n C (i := 0) rfl 0 rfl dX11_queryOf_5 ?_
    obtain ⟨hc_6, h⟩ := h
    obtain ⟨b1, hb_b1, h⟩ := h
    refine cg_get C (k := 11) (j := 11) (.ref b1) hc_6.1 hc_6.2 (by decide) rfl (by decide) rfl (show cV _ 11 11 x0 = _ from congrArg va_rf hb_b1) cWs_wsX110 cl_X11_65 rfl dX11_queryOf_6 ?_
    obtain ⟨hc_9, h⟩ := h
    obtain ⟨hb_9, h⟩ := h
    refine cg_calli C (t_Jx4a65c_size_8abf5 l b1 S dp h) cc_X11_180 hc_9.1 hc_9.2 (by decide) rfl rfl ⟨by decide, by decide⟩ hb_9 rfl (Nat.le_of_ble_eq_true rfl) dX11_queryOf_9 (fun r_2 S_2 h => ?_)
    simp only [Nat.add_zero]
    refine cg_icmp_lt C 26 (by decide) dX11_queryOf_12 (fun c_ => ?_) (fun c_ => ?_)
    · have h := h.1 c_
      refine cg_aload_n C (i := 0) rfl 0 rfl dX11_queryOf_26 ?_
      obtain ⟨hc_27, h⟩ := h
      obtain ⟨b3, hb_b3, h⟩ := h
      refine cg_get C (k := 11) (j := 11) (.ref b3) hc_27.1 hc_27.2 (by decide) rfl (by decide) rfl (show cV _ 11 11 x0 = _ from congrArg va_rf hb_b3) cWs_wsX110 cl_X11_65 rfl dX11_queryOf_27 ?_
      refine cg_iload_n C (i := 1) rfl 1 rfl dX11_queryOf_30 ?_
      obtain ⟨hc_31, h⟩ := h
      obtain ⟨hb_31, h⟩ := h
      refine cg_callr C (t_Jx4a65c_get_915e3 l b3 x1 S_2 dp h) cc_X11_277 hc_31.1 hc_31.2 (by decide) rfl rfl ⟨by decide, by decide⟩ hb_31 rfl (Nat.le_of_ble_eq_true rfl) dX11_queryOf_31 (fun r_4 S_4 h => ?_)
      simp only [Nat.add_zero]
      obtain ⟨hc_34, h⟩ := h
      refine cg_ccast C (k := 6) hc_34.1 hc_34.2 (by decide) rfl cnc_X11_58 dX11_queryOf_34 ?_
      exact h.elim
    · have h := h.2 c_
      obtain ⟨hE_, hb_, h⟩ := h
      rw [hE_]
      exact cg_throw3W C hlt hne "there is no such query" ce_X11_269 cei_3 (by decide) dX11_queryOf_15 dX11_queryOf_18 dX11_queryOf_19 dX11_queryOf_22 dX11_queryOf_25 (by decide) (Nat.le_of_ble_eq_true rfl) hb_ hb_ h
def kx_X11_find (E : String) (Q : cS → Prop) (dp : Nat) (mc ms : Nat) (x0 : Nat) (x1 : Int32) (x2 : Int32) (x3 : Int32) (S : cS) : Prop :=
cA S x0 11 ∧ ((((0 ≤ mc ∧ 0 ≤ ms) ∧ (k_X11_snapshotOf (fun r_3 S_3 => 
cA S_3 x0 11 ∧ ((((0 ≤ mc ∧ 0 ≤ ms) ∧ (k_X11_queryOf (fun r_6 S_6 => 
((x3 < ((nI 1)) →
  E = "java/lang/IllegalArgumentException" ∧ (0 + 1 ≤ mc ∧ 0 + 6 ≤ ms) ∧ Q S_6) ∧
 (¬ x3 < ((nI 1)) →
  ((x3 ≤ ((nI 20)) →
    cA S_6 x0 11 ∧ ((∃ b7 : Nat, cr S_6 365 x0 = some b7 ∧ (cA S_6 b7 1 ∧ ((0 ≤ mc ∧ 0 ≤ ms) ∧ (k_X1_search (fun r_8 S_8 => 
    False) dp b7 r_3 r_6 x2 x3 S_6)))))) ∧
   (¬ x3 ≤ ((nI 20)) →
    E = "java/lang/IllegalArgumentException" ∧ (0 + 1 ≤ mc ∧ 0 + 6 ≤ ms) ∧ Q S_6))))) dp x0 x2 S_3)) ∨
 (∃ mc4 ms5 : Nat, (0 + mc4 ≤ mc ∧ 0 + ms5 ≤ ms) ∧ kx_X11_queryOf E Q dp mc4 ms5 x0 x2 S_3)))) dp x0 x1 S)) ∨
 (∃ mc1 ms2 : Nat, (0 + mc1 ≤ mc ∧ 0 + ms2 ≤ ms) ∧ kx_X11_snapshotOf E Q dp mc1 ms2 x0 x1 S)))
set_option maxHeartbeats 1000000 in
set_option maxRecDepth 20000 in
theorem tx_X11_find (l : Launch) (hlt : l.stackTraces = false) (E : String) (mc ms : Nat) (x0 : Nat) (x1 : Int32) (x2 : Int32) (x3 : Int32) (S : cS) (dp : Nat) {P : cS → Prop} (h : kx_X11_find E P dp mc ms x0 x1 x2 x3 S) : cMetX E P l yX11_find cX11_find 6 (some .int) 8 mc ms 195 [.ref x0, .int x1, .int x2, .int x3] S dp := by
  intro D Y tp sz
  refine cg_bodyX (by decide +kernel) (Nat.le_of_ble_eq_true rfl) ?_
  intro p e s m args below meth c C hne
  generalize va_A (cWd Y S) sz = A at C ⊢
  have C : cC p s m args meth c cX11_find 6 (some .int) A D Y tp dp RX11 := C
  refine cg_lv (lv' := [(0, .ref x0), (1, .int x1), (2, .int x2), (3, .int x3)]) rfl ?_
  unfold kx_X11_find at h
  refine cg_aload_n C (i := 0) rfl 0 rfl dX11_find_0 ?_
  refine cg_iload_n C (i := 1) rfl 1 rfl dX11_find_1 ?_
  obtain ⟨hc_2, h⟩ := h
  rcases h with h | ⟨mc1, ms2, hm_, h⟩
  · obtain ⟨hb_2, h⟩ := h
    refine cg_callr C (t_X11_snapshotOf l x0 x1 S dp h) cc_X11_317 hc_2.1 hc_2.2 (by decide) rfl rfl ⟨by decide, by decide⟩ hb_2 rfl (Nat.le_of_ble_eq_true rfl) dX11_find_2 (fun r_3 S_3 h => ?_)
    simp only [Nat.add_zero]
    refine cg_astore (lv' := [(4, .ref r_3), (0, .ref x0), (1, .int x1), (2, .int x2), (3, .int x3)]) C (Nat.le_of_ble_eq_true rfl) rfl dX11_find_5 ?_
    refine cg_aload_n C (i := 0) rfl 1 rfl dX11_find_7 ?_
    refine cg_iload_n C (i := 2) rfl 3 rfl dX11_find_8 ?_
    obtain ⟨hc_9, h⟩ := h
    rcases h with h | ⟨mc4, ms5, hm_, h⟩
    · obtain ⟨hb_9, h⟩ := h
      refine cg_callr C (t_X11_queryOf l x0 x2 S_3 dp h) cc_X11_396 hc_9.1 hc_9.2 (by decide) rfl rfl ⟨by decide, by decide⟩ hb_9 rfl (Nat.le_of_ble_eq_true rfl) dX11_find_9 (fun r_6 S_6 h => ?_)
      simp only [Nat.add_zero]
      refine cg_astore (lv' := [(5, .ref r_6), (4, .ref r_3), (0, .ref x0), (1, .int x1), (2, .int x2), (3, .int x3)]) C (Nat.le_of_ble_eq_true rfl) rfl dX11_find_12 ?_
      refine cg_iload_n C (i := 3) rfl 5 rfl dX11_find_14 ?_
      refine cg_iconst C (x := nI 1) rfl dX11_find_15 ?_
      refine cg_icmp_lt C 25 (by decide) dX11_find_16 (fun c_ => ?_) (fun c_ => ?_)
      · have h := h.1 c_
        obtain ⟨hE_, hb_, h⟩ := h
        rw [hE_]
        exact cg_throw1W C hlt hne "the number of hits is out of range" ce_X11_100 cei_1 (by decide) dX11_find_25 dX11_find_28 dX11_find_29 dX11_find_32 dX11_find_35 (by decide) (Nat.le_of_ble_eq_true rfl) hb_ hb_ h
      · have h := h.2 c_
        refine cg_iload_n C (i := 3) rfl 5 rfl dX11_find_19 ?_
        refine cg_bipush C (x := nI 20) rfl dX11_find_20 ?_
        refine cg_icmp_le C 36 (by decide) dX11_find_22 (fun c_ => ?_) (fun c_ => ?_)
        · have h := h.1 c_
          refine cg_aload_n C (i := 0) rfl 2 rfl dX11_find_36 ?_
          obtain ⟨hc_37, h⟩ := h
          obtain ⟨b7, hb_b7, h⟩ := h
          refine cg_get C (k := 11) (j := 13) (.ref b7) hc_37.1 hc_37.2 (by decide) rfl (by decide) rfl (show cV _ 11 13 x0 = _ from congrArg va_rf hb_b7) cWs_wsX110 cl_X11_80 rfl dX11_find_37 ?_
          refine cg_aload C 1 rfl dX11_find_40 ?_
          refine cg_aload C 0 rfl dX11_find_42 ?_
          refine cg_iload_n C (i := 2) rfl 4 rfl dX11_find_44 ?_
          refine cg_iload_n C (i := 3) rfl 5 rfl dX11_find_45 ?_
          obtain ⟨hc_46, h⟩ := h
          obtain ⟨hb_46, h⟩ := h
          refine cg_calli C (t_X1_search l b7 r_3 r_6 x2 x3 S_6 dp h) cc_X11_402 hc_46.1 hc_46.2 (by decide) rfl rfl ⟨by decide, by decide⟩ hb_46 rfl (Nat.le_of_ble_eq_true rfl) dX11_find_46 (fun r_8 S_8 h => ?_)
          simp only [Nat.add_zero]
          exact h.elim
        · have h := h.2 c_
          obtain ⟨hE_, hb_, h⟩ := h
          rw [hE_]
          exact cg_throw1W C hlt hne "the number of hits is out of range" ce_X11_100 cei_1 (by decide) dX11_find_25 dX11_find_28 dX11_find_29 dX11_find_32 dX11_find_35 (by decide) (Nat.le_of_ble_eq_true rfl) hb_ hb_ h
    · exact cg_callx C hne (tx_X11_queryOf l hlt E mc4 ms5 x0 x2 S_3 dp h) cc_X11_396 hc_9.1 hc_9.2 (by decide) rfl rfl ⟨by decide, by decide⟩ hm_ rfl (Nat.le_of_ble_eq_true rfl) dX11_find_9 hm_ (fun _ z => z)
  · exact cg_callx C hne (tx_X11_snapshotOf l hlt E mc1 ms2 x0 x1 S dp h) cc_X11_317 hc_2.1 hc_2.2 (by decide) rfl rfl ⟨by decide, by decide⟩ hm_ rfl (Nat.le_of_ble_eq_true rfl) dX11_find_2 hm_ (fun _ z => z)
def kx_X11_checkHit (E : String) (Q : cS → Prop) (dp : Nat) (mc ms : Nat) (x0 : Nat) (x1 : Int32) (S : cS) : Prop :=
((x1 < 0 →
  E = "java/lang/IndexOutOfBoundsException" ∧ (0 + 1 ≤ mc ∧ 0 + 6 ≤ ms) ∧ Q S) ∧
 (¬ x1 < 0 →
  cA S x0 11 ∧ ((∃ b1 : Nat, cr S 365 x0 = some b1 ∧ (cA S b1 1 ∧ (((x1 < ((ci S 33 b1)) →
    False) ∧
   (¬ x1 < ((ci S 33 b1)) →
    E = "java/lang/IndexOutOfBoundsException" ∧ (0 + 1 ≤ mc ∧ 0 + 6 ≤ ms) ∧ Q S))))))))
set_option maxHeartbeats 1000000 in
set_option maxRecDepth 20000 in
theorem tx_X11_checkHit (l : Launch) (hlt : l.stackTraces = false) (E : String) (mc ms : Nat) (x0 : Nat) (x1 : Int32) (S : cS) (dp : Nat) {P : cS → Prop} (h : kx_X11_checkHit E P dp mc ms x0 x1 S) : cMetX E P l yX11_checkHit cX11_checkHit 2 none 6 mc ms 82 [.ref x0, .int x1] S dp := by
  intro D Y tp sz
  refine cg_bodyX (by decide +kernel) (Nat.le_of_ble_eq_true rfl) ?_
  intro p e s m args below meth c C hne
  generalize va_A (cWd Y S) sz = A at C ⊢
  have C : cC p s m args meth c cX11_checkHit 2 none A D Y tp dp RX11 := C
  refine cg_lv (lv' := [(0, .ref x0), (1, .int x1)]) rfl ?_
  unfold kx_X11_checkHit at h
  refine cg_iload_n C (i := 1) rfl 1 rfl dX11_checkHit_0 ?_
  refine cg_if_lt C 15 (by decide) dX11_checkHit_1 (fun c_ => ?_) (fun c_ => ?_)
  · have h := h.1 c_
    obtain ⟨hE_, hb_, h⟩ := h
    rw [hE_]
    exact cg_throw3W C hlt hne "there are not so many hits" ce_X11_269 cei_3 (by decide) dX11_checkHit_15 dX11_checkHit_18 dX11_checkHit_19 dX11_checkHit_22 dX11_checkHit_25 (by decide) (Nat.le_of_ble_eq_true rfl) hb_ hb_ h
  · have h := h.2 c_
    refine cg_iload_n C (i := 1) rfl 1 rfl dX11_checkHit_4 ?_
    refine cg_aload_n C (i := 0) rfl 0 rfl dX11_checkHit_5 ?_
    obtain ⟨hc_6, h⟩ := h
    obtain ⟨b1, hb_b1, h⟩ := h
    refine cg_get C (k := 11) (j := 13) (.ref b1) hc_6.1 hc_6.2 (by decide) rfl (by decide) rfl (show cV _ 11 13 x0 = _ from congrArg va_rf hb_b1) cWs_wsX110 cl_X11_80 rfl dX11_checkHit_6 ?_
    obtain ⟨hc_9, h⟩ := h
    refine cg_get C (k := 1) (j := 1) (.int (ci S 33 b1)) hc_9.1 hc_9.2 (by decide) rfl (by decide) rfl rfl cWs_wsX10 cl_X11_473 rfl dX11_checkHit_9 ?_
    refine cg_icmp_lt C 26 (by decide) dX11_checkHit_12 (fun c_ => ?_) (fun c_ => ?_)
    · have h := h.1 c_
      exact h.elim
    · have h := h.2 c_
      obtain ⟨hE_, hb_, h⟩ := h
      rw [hE_]
      exact cg_throw3W C hlt hne "there are not so many hits" ce_X11_269 cei_3 (by decide) dX11_checkHit_15 dX11_checkHit_18 dX11_checkHit_19 dX11_checkHit_22 dX11_checkHit_25 (by decide) (Nat.le_of_ble_eq_true rfl) hb_ hb_ h
def kx_X11_hitAt (E : String) (Q : cS → Prop) (dp : Nat) (mc ms : Nat) (x0 : Nat) (x1 : Int32) (S : cS) : Prop :=
cA S x0 11 ∧ ((((0 ≤ mc ∧ 0 ≤ ms) ∧ (k_X11_checkHit (fun S_3 => 
cA S_3 x0 11 ∧ ((∃ b4 : Nat, cr S_3 365 x0 = some b4 ∧ (cA S_3 b4 1 ∧ ((∃ b5 : Nat, cr S_3 34 b4 = some b5 ∧ (cX S_3 b5 14 x1 ∧ (False)))))))) dp x0 x1 S)) ∨
 (∃ mc1 ms2 : Nat, (0 + mc1 ≤ mc ∧ 0 + ms2 ≤ ms) ∧ kx_X11_checkHit E Q dp mc1 ms2 x0 x1 S)))
set_option maxHeartbeats 1000000 in
set_option maxRecDepth 20000 in
theorem tx_X11_hitAt (l : Launch) (hlt : l.stackTraces = false) (E : String) (mc ms : Nat) (x0 : Nat) (x1 : Int32) (S : cS) (dp : Nat) {P : cS → Prop} (h : kx_X11_hitAt E P dp mc ms x0 x1 S) : cMetX E P l yX11_hitAt cX11_hitAt 2 (some .int) 7 mc ms 103 [.ref x0, .int x1] S dp := by
  intro D Y tp sz
  refine cg_bodyX (by decide +kernel) (Nat.le_of_ble_eq_true rfl) ?_
  intro p e s m args below meth c C hne
  generalize va_A (cWd Y S) sz = A at C ⊢
  have C : cC p s m args meth c cX11_hitAt 2 (some .int) A D Y tp dp RX11 := C
  refine cg_lv (lv' := [(0, .ref x0), (1, .int x1)]) rfl ?_
  unfold kx_X11_hitAt at h
  refine cg_aload_n C (i := 0) rfl 0 rfl dX11_hitAt_0 ?_
  refine cg_iload_n C (i := 1) rfl 1 rfl dX11_hitAt_1 ?_
  obtain ⟨hc_2, h⟩ := h
  rcases h with h | ⟨mc1, ms2, hm_, h⟩
  · obtain ⟨hb_2, h⟩ := h
    refine cg_callv C (t_X11_checkHit l x0 x1 S dp h) cc_X11_406 hc_2.1 hc_2.2 (by decide) rfl rfl ⟨by decide, by decide⟩ hb_2 rfl (Nat.le_of_ble_eq_true rfl) dX11_hitAt_2 (fun S_3 h => ?_)
    simp only [Nat.add_zero]
    refine cg_aload_n C (i := 0) rfl 0 rfl dX11_hitAt_5 ?_
    obtain ⟨hc_6, h⟩ := h
    obtain ⟨b4, hb_b4, h⟩ := h
    refine cg_get C (k := 11) (j := 13) (.ref b4) hc_6.1 hc_6.2 (by decide) rfl (by decide) rfl (show cV _ 11 13 x0 = _ from congrArg va_rf hb_b4) cWs_wsX110 cl_X11_80 rfl dX11_hitAt_6 ?_
    obtain ⟨hc_9, h⟩ := h
    obtain ⟨b5, hb_b5, h⟩ := h
    refine cg_get C (k := 1) (j := 2) (.ref b5) hc_9.1 hc_9.2 (by decide) rfl (by decide) rfl (show cV _ 1 2 b4 = _ from congrArg va_rf hb_b5) cWs_wsX10 cl_X11_409 rfl dX11_hitAt_9 ?_
    refine cg_iload_n C (i := 1) rfl 1 rfl dX11_hitAt_12 ?_
    obtain ⟨hc_13, h⟩ := h
    refine cg_ialoadR C hc_13 dX11_hitAt_13 ?_
    exact h.elim
  · exact cg_callx C hne (tx_X11_checkHit l hlt E mc1 ms2 x0 x1 S dp h) cc_X11_406 hc_2.1 hc_2.2 (by decide) rfl rfl ⟨by decide, by decide⟩ hm_ rfl (Nat.le_of_ble_eq_true rfl) dX11_hitAt_2 hm_ (fun _ z => z)
def kx_X11_rankAt (E : String) (Q : cS → Prop) (dp : Nat) (mc ms : Nat) (x0 : Nat) (x1 : Int32) (S : cS) : Prop :=
cA S x0 11 ∧ ((((0 ≤ mc ∧ 0 ≤ ms) ∧ (k_X11_checkHit (fun S_3 => 
cA S_3 x0 11 ∧ ((∃ b4 : Nat, cr S_3 365 x0 = some b4 ∧ (cA S_3 b4 1 ∧ ((∃ b5 : Nat, cr S_3 35 b4 = some b5 ∧ (cX S_3 b5 14 x1 ∧ (False)))))))) dp x0 x1 S)) ∨
 (∃ mc1 ms2 : Nat, (0 + mc1 ≤ mc ∧ 0 + ms2 ≤ ms) ∧ kx_X11_checkHit E Q dp mc1 ms2 x0 x1 S)))
set_option maxHeartbeats 1000000 in
set_option maxRecDepth 20000 in
theorem tx_X11_rankAt (l : Launch) (hlt : l.stackTraces = false) (E : String) (mc ms : Nat) (x0 : Nat) (x1 : Int32) (S : cS) (dp : Nat) {P : cS → Prop} (h : kx_X11_rankAt E P dp mc ms x0 x1 S) : cMetX E P l yX11_rankAt cX11_rankAt 2 (some .int) 7 mc ms 103 [.ref x0, .int x1] S dp := by
  intro D Y tp sz
  refine cg_bodyX (by decide +kernel) (Nat.le_of_ble_eq_true rfl) ?_
  intro p e s m args below meth c C hne
  generalize va_A (cWd Y S) sz = A at C ⊢
  have C : cC p s m args meth c cX11_rankAt 2 (some .int) A D Y tp dp RX11 := C
  refine cg_lv (lv' := [(0, .ref x0), (1, .int x1)]) rfl ?_
  unfold kx_X11_rankAt at h
  refine cg_aload_n C (i := 0) rfl 0 rfl dX11_rankAt_0 ?_
  refine cg_iload_n C (i := 1) rfl 1 rfl dX11_rankAt_1 ?_
  obtain ⟨hc_2, h⟩ := h
  rcases h with h | ⟨mc1, ms2, hm_, h⟩
  · obtain ⟨hb_2, h⟩ := h
    refine cg_callv C (t_X11_checkHit l x0 x1 S dp h) cc_X11_406 hc_2.1 hc_2.2 (by decide) rfl rfl ⟨by decide, by decide⟩ hb_2 rfl (Nat.le_of_ble_eq_true rfl) dX11_rankAt_2 (fun S_3 h => ?_)
    simp only [Nat.add_zero]
    refine cg_aload_n C (i := 0) rfl 0 rfl dX11_rankAt_5 ?_
    obtain ⟨hc_6, h⟩ := h
    obtain ⟨b4, hb_b4, h⟩ := h
    refine cg_get C (k := 11) (j := 13) (.ref b4) hc_6.1 hc_6.2 (by decide) rfl (by decide) rfl (show cV _ 11 13 x0 = _ from congrArg va_rf hb_b4) cWs_wsX110 cl_X11_80 rfl dX11_rankAt_6 ?_
    obtain ⟨hc_9, h⟩ := h
    obtain ⟨b5, hb_b5, h⟩ := h
    refine cg_get C (k := 1) (j := 3) (.ref b5) hc_9.1 hc_9.2 (by decide) rfl (by decide) rfl (show cV _ 1 3 b4 = _ from congrArg va_rf hb_b5) cWs_wsX10 cl_X11_412 rfl dX11_rankAt_9 ?_
    refine cg_iload_n C (i := 1) rfl 1 rfl dX11_rankAt_12 ?_
    obtain ⟨hc_13, h⟩ := h
    refine cg_ialoadR C hc_13 dX11_rankAt_13 ?_
    exact h.elim
  · exact cg_callx C hne (tx_X11_checkHit l hlt E mc1 ms2 x0 x1 S dp h) cc_X11_406 hc_2.1 hc_2.2 (by decide) rfl rfl ⟨by decide, by decide⟩ hm_ rfl (Nat.le_of_ble_eq_true rfl) dX11_rankAt_2 hm_ (fun _ z => z)
def kx_X11_rankByScan (E : String) (Q : cS → Prop) (dp : Nat) (mc ms : Nat) (x0 : Nat) (x1 : Int32) (x2 : Int32) (x3 : Int32) (S : cS) : Prop :=
cA S x0 11 ∧ ((((0 ≤ mc ∧ 0 ≤ ms) ∧ (k_X11_snapshotOf (fun r_3 S_3 => 
cA S_3 x0 11 ∧ ((((0 ≤ mc ∧ 0 ≤ ms) ∧ (k_X11_queryOf (fun r_6 S_6 => 
(((0 ≤ mc ∧ 0 ≤ ms) ∧ (k_X11_checkKey (fun S_9 => 
cA S_9 r_3 10 ∧ ((0 ≤ mc ∧ 0 ≤ ms) ∧ (k_X10_liveDocument (fun r_10 S_10 => 
((r_10 = none →
  False) ∧
 (∀ b11 : Nat, r_10 = some b11 →
  cA S_10 x0 11 ∧ ((∃ b12 : Nat, cr S_10 364 x0 = some b12 ∧ (cA S_10 b12 7 ∧ ((0 ≤ mc ∧ 0 ≤ ms) ∧ (k_X7_scanRarities (fun S_13 => 
  cA S_13 x0 11 ∧ ((∃ b14 : Nat, cr S_13 364 x0 = some b14 ∧ (cA S_13 b14 7 ∧ ((0 ≤ mc ∧ 0 ≤ ms) ∧ (k_X7_scanDocument (fun S_15 => 
  cA S_15 x0 11 ∧ ((∃ b16 : Nat, cr S_15 364 x0 = some b16 ∧ (cA S_15 b16 7 ∧ ((0 ≤ mc ∧ 0 ≤ ms) ∧ (k_X7_valueAt (fun r_17 S_17 => 
  False) dp b16 r_6 ((nI 0)) S_15)))))) dp b14 r_6 b11 S_13)))))) dp b12 r_6 r_3 S_10)))))))) dp r_3 x3 S_9))) dp x3 S_6)) ∨
 (∃ mc7 ms8 : Nat, (0 + mc7 ≤ mc ∧ 0 + ms8 ≤ ms) ∧ kx_X11_checkKey E Q dp mc7 ms8 x3 S_6))) dp x0 x2 S_3)) ∨
 (∃ mc4 ms5 : Nat, (0 + mc4 ≤ mc ∧ 0 + ms5 ≤ ms) ∧ kx_X11_queryOf E Q dp mc4 ms5 x0 x2 S_3)))) dp x0 x1 S)) ∨
 (∃ mc1 ms2 : Nat, (0 + mc1 ≤ mc ∧ 0 + ms2 ≤ ms) ∧ kx_X11_snapshotOf E Q dp mc1 ms2 x0 x1 S)))
set_option maxHeartbeats 1000000 in
set_option maxRecDepth 20000 in
theorem tx_X11_rankByScan (l : Launch) (hlt : l.stackTraces = false) (E : String) (mc ms : Nat) (x0 : Nat) (x1 : Int32) (x2 : Int32) (x3 : Int32) (S : cS) (dp : Nat) {P : cS → Prop} (h : kx_X11_rankByScan E P dp mc ms x0 x1 x2 x3 S) : cMetX E P l yX11_rankByScan cX11_rankByScan 7 (some .int) 7 mc ms 138 [.ref x0, .int x1, .int x2, .int x3] S dp := by
  intro D Y tp sz
  refine cg_bodyX (by decide +kernel) (Nat.le_of_ble_eq_true rfl) ?_
  intro p e s m args below meth c C hne
  generalize va_A (cWd Y S) sz = A at C ⊢
  have C : cC p s m args meth c cX11_rankByScan 7 (some .int) A D Y tp dp RX11 := C
  refine cg_lv (lv' := [(0, .ref x0), (1, .int x1), (2, .int x2), (3, .int x3)]) rfl ?_
  unfold kx_X11_rankByScan at h
  refine cg_aload_n C (i := 0) rfl 0 rfl dX11_rankByScan_0 ?_
  refine cg_iload_n C (i := 1) rfl 1 rfl dX11_rankByScan_1 ?_
  obtain ⟨hc_2, h⟩ := h
  rcases h with h | ⟨mc1, ms2, hm_, h⟩
  · obtain ⟨hb_2, h⟩ := h
    refine cg_callr C (t_X11_snapshotOf l x0 x1 S dp h) cc_X11_317 hc_2.1 hc_2.2 (by decide) rfl rfl ⟨by decide, by decide⟩ hb_2 rfl (Nat.le_of_ble_eq_true rfl) dX11_rankByScan_2 (fun r_3 S_3 h => ?_)
    simp only [Nat.add_zero]
    refine cg_astore (lv' := [(4, .ref r_3), (0, .ref x0), (1, .int x1), (2, .int x2), (3, .int x3)]) C (Nat.le_of_ble_eq_true rfl) rfl dX11_rankByScan_5 ?_
    refine cg_aload_n C (i := 0) rfl 1 rfl dX11_rankByScan_7 ?_
    refine cg_iload_n C (i := 2) rfl 3 rfl dX11_rankByScan_8 ?_
    obtain ⟨hc_9, h⟩ := h
    rcases h with h | ⟨mc4, ms5, hm_, h⟩
    · obtain ⟨hb_9, h⟩ := h
      refine cg_callr C (t_X11_queryOf l x0 x2 S_3 dp h) cc_X11_396 hc_9.1 hc_9.2 (by decide) rfl rfl ⟨by decide, by decide⟩ hb_9 rfl (Nat.le_of_ble_eq_true rfl) dX11_rankByScan_9 (fun r_6 S_6 h => ?_)
      simp only [Nat.add_zero]
      refine cg_astore (lv' := [(5, .ref r_6), (4, .ref r_3), (0, .ref x0), (1, .int x1), (2, .int x2), (3, .int x3)]) C (Nat.le_of_ble_eq_true rfl) rfl dX11_rankByScan_12 ?_
      refine cg_iload_n C (i := 3) rfl 5 rfl dX11_rankByScan_14 ?_
      rcases h with h | ⟨mc7, ms8, hm_, h⟩
      · obtain ⟨hb_15, h⟩ := h
        refine cg_callsv C (t_X11_checkKey l x3 S_6 dp h) cc_X11_174 rfl ⟨by decide, by decide⟩ hb_15 rfl (Nat.le_of_ble_eq_true rfl) dX11_rankByScan_15 (fun S_9 h => ?_)
        simp only [Nat.add_zero]
        refine cg_aload C 1 rfl dX11_rankByScan_18 ?_
        refine cg_iload_n C (i := 3) rfl 5 rfl dX11_rankByScan_20 ?_
        obtain ⟨hc_21, h⟩ := h
        obtain ⟨hb_21, h⟩ := h
        refine cg_callq C (t_X10_liveDocument l r_3 x3 S_9 dp h) cc_X11_421 hc_21.1 hc_21.2 (by decide) rfl rfl ⟨by decide, by decide⟩ hb_21 rfl (Nat.le_of_ble_eq_true rfl) dX11_rankByScan_21 (fun r_10 S_10 h => ?_)
        simp only [Nat.add_zero]
        obtain ho | ⟨b11, ho⟩ := c_opt r_10
        · replace h := h.1 ho
          subst ho
          refine cg_cast (.null) rfl ?_
          refine cg_astoreN (lv' := [(6, .null), (5, .ref r_6), (4, .ref r_3), (0, .ref x0), (1, .int x1), (2, .int x2), (3, .int x3)]) C (Nat.le_of_ble_eq_true rfl) rfl dX11_rankByScan_24 ?_
          refine cg_aloadN C 0 rfl dX11_rankByScan_26 ?_
          refine cg_ifnonnullN C dX11_rankByScan_28 ?_
          refine cg_iconst C (x := (-1)) rfl dX11_rankByScan_31 ?_
          exact h.elim
        · replace h := h.2 b11 ho
          subst ho
          refine cg_cast (.ref b11) rfl ?_
          refine cg_astore (lv' := [(6, .ref b11), (5, .ref r_6), (4, .ref r_3), (0, .ref x0), (1, .int x1), (2, .int x2), (3, .int x3)]) C (Nat.le_of_ble_eq_true rfl) rfl dX11_rankByScan_24 ?_
          refine cg_aload C 0 rfl dX11_rankByScan_26 ?_
          refine cg_ifnonnull C 33 (by decide) dX11_rankByScan_28 ?_
          refine cg_aload_n C (i := 0) rfl 3 rfl dX11_rankByScan_33 ?_
          obtain ⟨hc_34, h⟩ := h
          obtain ⟨b12, hb_b12, h⟩ := h
          refine cg_get C (k := 11) (j := 12) (.ref b12) hc_34.1 hc_34.2 (by decide) rfl (by decide) rfl (show cV _ 11 12 x0 = _ from congrArg va_rf hb_b12) cWs_wsX110 cl_X11_71 rfl dX11_rankByScan_34 ?_
          refine cg_aload C 1 rfl dX11_rankByScan_37 ?_
          refine cg_aload C 2 rfl dX11_rankByScan_39 ?_
          obtain ⟨hc_41, h⟩ := h
          obtain ⟨hb_41, h⟩ := h
          refine cg_callv C (t_X7_scanRarities l b12 r_6 r_3 S_10 dp h) cc_X11_425 hc_41.1 hc_41.2 (by decide) rfl rfl ⟨by decide, by decide⟩ hb_41 rfl (Nat.le_of_ble_eq_true rfl) dX11_rankByScan_41 (fun S_13 h => ?_)
          simp only [Nat.add_zero]
          refine cg_aload_n C (i := 0) rfl 3 rfl dX11_rankByScan_44 ?_
          obtain ⟨hc_45, h⟩ := h
          obtain ⟨b14, hb_b14, h⟩ := h
          refine cg_get C (k := 11) (j := 12) (.ref b14) hc_45.1 hc_45.2 (by decide) rfl (by decide) rfl (show cV _ 11 12 x0 = _ from congrArg va_rf hb_b14) cWs_wsX110 cl_X11_71 rfl dX11_rankByScan_45 ?_
          refine cg_aload C 1 rfl dX11_rankByScan_48 ?_
          refine cg_aload C 0 rfl dX11_rankByScan_50 ?_
          obtain ⟨hc_52, h⟩ := h
          obtain ⟨hb_52, h⟩ := h
          refine cg_callv C (t_X7_scanDocument l b14 r_6 b11 S_13 dp h) cc_X11_429 hc_52.1 hc_52.2 (by decide) rfl rfl ⟨by decide, by decide⟩ hb_52 rfl (Nat.le_of_ble_eq_true rfl) dX11_rankByScan_52 (fun S_15 h => ?_)
          simp only [Nat.add_zero]
          refine cg_aload_n C (i := 0) rfl 3 rfl dX11_rankByScan_55 ?_
          obtain ⟨hc_56, h⟩ := h
          obtain ⟨b16, hb_b16, h⟩ := h
          refine cg_get C (k := 11) (j := 12) (.ref b16) hc_56.1 hc_56.2 (by decide) rfl (by decide) rfl (show cV _ 11 12 x0 = _ from congrArg va_rf hb_b16) cWs_wsX110 cl_X11_71 rfl dX11_rankByScan_56 ?_
          refine cg_aload C 1 rfl dX11_rankByScan_59 ?_
          refine cg_iconst C (x := nI 0) rfl dX11_rankByScan_61 ?_
          obtain ⟨hc_62, h⟩ := h
          obtain ⟨hb_62, h⟩ := h
          refine cg_calli C (t_X7_valueAt l b16 r_6 ((nI 0)) S_15 dp h) cc_X11_433 hc_62.1 hc_62.2 (by decide) rfl rfl ⟨by decide, by decide⟩ hb_62 rfl (Nat.le_of_ble_eq_true rfl) dX11_rankByScan_62 (fun r_17 S_17 h => ?_)
          simp only [Nat.add_zero]
          exact h.elim
      · exact cg_callsx C hne (tx_X11_checkKey l hlt E mc7 ms8 x3 S_6 dp h) cc_X11_174 rfl ⟨by decide, by decide⟩ hm_ rfl (Nat.le_of_ble_eq_true rfl) dX11_rankByScan_15 hm_ (fun _ z => z)
    · exact cg_callx C hne (tx_X11_queryOf l hlt E mc4 ms5 x0 x2 S_3 dp h) cc_X11_396 hc_9.1 hc_9.2 (by decide) rfl rfl ⟨by decide, by decide⟩ hm_ rfl (Nat.le_of_ble_eq_true rfl) dX11_rankByScan_9 hm_ (fun _ z => z)
  · exact cg_callx C hne (tx_X11_snapshotOf l hlt E mc1 ms2 x0 x1 S dp h) cc_X11_317 hc_2.1 hc_2.2 (by decide) rfl rfl ⟨by decide, by decide⟩ hm_ rfl (Nat.le_of_ble_eq_true rfl) dX11_rankByScan_2 hm_ (fun _ z => z)
def kx_X11_matches (E : String) (Q : cS → Prop) (dp : Nat) (mc ms : Nat) (x0 : Nat) (x1 : Int32) (x2 : Int32) (S : cS) : Prop :=
cA S x0 11 ∧ ((((0 ≤ mc ∧ 0 ≤ ms) ∧ (k_X11_snapshotOf (fun r_3 S_3 => 
cA S_3 x0 11 ∧ ((((0 ≤ mc ∧ 0 ≤ ms) ∧ (k_X11_queryOf (fun r_6 S_6 => 
cA S_6 x0 11 ∧ ((∃ b7 : Nat, cr S_6 364 x0 = some b7 ∧ (cA S_6 b7 7 ∧ ((∃ mc8 ms9 : Nat, 0 + mc8 ≤ mc ∧ 0 + ms9 ≤ ms ∧ (k_X7_matched (fun r_10 S_10 => 
cA S_10 r_10 12 ∧ ((0 + mc8 ≤ mc ∧ 0 + ms9 ≤ ms) ∧ (k_Jx4a65c_size_8abf5 (fun r_11 S_11 => 
False) dp r_10 S_10))) dp mc8 ms9 b7 r_3 r_6 S_6))))))) dp x0 x2 S_3)) ∨
 (∃ mc4 ms5 : Nat, (0 + mc4 ≤ mc ∧ 0 + ms5 ≤ ms) ∧ kx_X11_queryOf E Q dp mc4 ms5 x0 x2 S_3)))) dp x0 x1 S)) ∨
 (∃ mc1 ms2 : Nat, (0 + mc1 ≤ mc ∧ 0 + ms2 ≤ ms) ∧ kx_X11_snapshotOf E Q dp mc1 ms2 x0 x1 S)))
set_option maxHeartbeats 1000000 in
set_option maxRecDepth 20000 in
theorem tx_X11_matches (l : Launch) (hlt : l.stackTraces = false) (E : String) (mc ms : Nat) (x0 : Nat) (x1 : Int32) (x2 : Int32) (S : cS) (dp : Nat) {P : cS → Prop} (h : kx_X11_matches E P dp mc ms x0 x1 x2 S) : cMetX E P l yX11_matches cX11_matches 5 (some .int) 9 mc ms 214 [.ref x0, .int x1, .int x2] S dp := by
  intro D Y tp sz
  refine cg_bodyX (by decide +kernel) (Nat.le_of_ble_eq_true rfl) ?_
  intro p e s m args below meth c C hne
  generalize va_A (cWd Y S) sz = A at C ⊢
  have C : cC p s m args meth c cX11_matches 5 (some .int) A D Y tp dp RX11 := C
  refine cg_lv (lv' := [(0, .ref x0), (1, .int x1), (2, .int x2)]) rfl ?_
  unfold kx_X11_matches at h
  refine cg_aload_n C (i := 0) rfl 0 rfl dX11_matches_0 ?_
  refine cg_iload_n C (i := 1) rfl 1 rfl dX11_matches_1 ?_
  obtain ⟨hc_2, h⟩ := h
  rcases h with h | ⟨mc1, ms2, hm_, h⟩
  · obtain ⟨hb_2, h⟩ := h
    refine cg_callr C (t_X11_snapshotOf l x0 x1 S dp h) cc_X11_317 hc_2.1 hc_2.2 (by decide) rfl rfl ⟨by decide, by decide⟩ hb_2 rfl (Nat.le_of_ble_eq_true rfl) dX11_matches_2 (fun r_3 S_3 h => ?_)
    simp only [Nat.add_zero]
    refine cg_astore_n (lv' := [(3, .ref r_3), (0, .ref x0), (1, .int x1), (2, .int x2)]) C (i := 3) rfl (Nat.le_of_ble_eq_true rfl) rfl dX11_matches_5 ?_
    refine cg_aload_n C (i := 0) rfl 1 rfl dX11_matches_6 ?_
    refine cg_iload_n C (i := 2) rfl 3 rfl dX11_matches_7 ?_
    obtain ⟨hc_8, h⟩ := h
    rcases h with h | ⟨mc4, ms5, hm_, h⟩
    · obtain ⟨hb_8, h⟩ := h
      refine cg_callr C (t_X11_queryOf l x0 x2 S_3 dp h) cc_X11_396 hc_8.1 hc_8.2 (by decide) rfl rfl ⟨by decide, by decide⟩ hb_8 rfl (Nat.le_of_ble_eq_true rfl) dX11_matches_8 (fun r_6 S_6 h => ?_)
      simp only [Nat.add_zero]
      refine cg_astore (lv' := [(4, .ref r_6), (3, .ref r_3), (0, .ref x0), (1, .int x1), (2, .int x2)]) C (Nat.le_of_ble_eq_true rfl) rfl dX11_matches_11 ?_
      refine cg_aload_n C (i := 0) rfl 2 rfl dX11_matches_13 ?_
      obtain ⟨hc_14, h⟩ := h
      obtain ⟨b7, hb_b7, h⟩ := h
      refine cg_get C (k := 11) (j := 12) (.ref b7) hc_14.1 hc_14.2 (by decide) rfl (by decide) rfl (show cV _ 11 12 x0 = _ from congrArg va_rf hb_b7) cWs_wsX110 cl_X11_71 rfl dX11_matches_14 ?_
      refine cg_aload_n C (i := 3) rfl 1 rfl dX11_matches_17 ?_
      refine cg_aload C 0 rfl dX11_matches_18 ?_
      obtain ⟨hc_20, h⟩ := h
      obtain ⟨mc8, ms9, hm_1, hm_2, h⟩ := h
      refine cg_callr C (t_X7_matched l mc8 ms9 b7 r_3 r_6 S_6 dp h) cc_X11_437 hc_20.1 hc_20.2 (by decide) rfl rfl ⟨by decide, by decide⟩ ⟨hm_1, hm_2⟩ rfl (Nat.le_of_ble_eq_true rfl) dX11_matches_20 (fun r_10 S_10 h => ?_)
      obtain ⟨hc_23, h⟩ := h
      obtain ⟨hb_23, h⟩ := h
      refine cg_calli C (t_Jx4a65c_size_8abf5 l r_10 S_10 dp h) cc_X11_180 hc_23.1 hc_23.2 (by decide) rfl rfl ⟨by decide, by decide⟩ hb_23 rfl (Nat.le_of_ble_eq_true rfl) dX11_matches_23 (fun r_11 S_11 h => ?_)
      simp only [Nat.add_zero]
      exact h.elim
    · exact cg_callx C hne (tx_X11_queryOf l hlt E mc4 ms5 x0 x2 S_3 dp h) cc_X11_396 hc_8.1 hc_8.2 (by decide) rfl rfl ⟨by decide, by decide⟩ hm_ rfl (Nat.le_of_ble_eq_true rfl) dX11_matches_8 hm_ (fun _ z => z)
  · exact cg_callx C hne (tx_X11_snapshotOf l hlt E mc1 ms2 x0 x1 S dp h) cc_X11_317 hc_2.1 hc_2.2 (by decide) rfl rfl ⟨by decide, by decide⟩ hm_ rfl (Nat.le_of_ble_eq_true rfl) dX11_matches_2 hm_ (fun _ z => z)
def kx_X11_matchesByScan (E : String) (Q : cS → Prop) (dp : Nat) (mc ms : Nat) (x0 : Nat) (x1 : Int32) (x2 : Int32) (S : cS) : Prop :=
cA S x0 11 ∧ ((((0 ≤ mc ∧ 0 ≤ ms) ∧ (k_X11_snapshotOf (fun r_3 S_3 => 
cA S_3 x0 11 ∧ ((((0 ≤ mc ∧ 0 ≤ ms) ∧ (k_X11_queryOf (fun r_6 S_6 => 
cA S_6 x0 11 ∧ ((∃ b7 : Nat, cr S_6 364 x0 = some b7 ∧ (cA S_6 b7 7 ∧ ((0 ≤ mc ∧ 0 ≤ ms) ∧ (k_X7_scannedCount (fun r_8 S_8 => 
False) dp b7 r_3 r_6 S_6)))))) dp x0 x2 S_3)) ∨
 (∃ mc4 ms5 : Nat, (0 + mc4 ≤ mc ∧ 0 + ms5 ≤ ms) ∧ kx_X11_queryOf E Q dp mc4 ms5 x0 x2 S_3)))) dp x0 x1 S)) ∨
 (∃ mc1 ms2 : Nat, (0 + mc1 ≤ mc ∧ 0 + ms2 ≤ ms) ∧ kx_X11_snapshotOf E Q dp mc1 ms2 x0 x1 S)))
set_option maxHeartbeats 1000000 in
set_option maxRecDepth 20000 in
theorem tx_X11_matchesByScan (l : Launch) (hlt : l.stackTraces = false) (E : String) (mc ms : Nat) (x0 : Nat) (x1 : Int32) (x2 : Int32) (S : cS) (dp : Nat) {P : cS → Prop} (h : kx_X11_matchesByScan E P dp mc ms x0 x1 x2 S) : cMetX E P l yX11_matchesByScan cX11_matchesByScan 5 (some .int) 7 mc ms 157 [.ref x0, .int x1, .int x2] S dp := by
  intro D Y tp sz
  refine cg_bodyX (by decide +kernel) (Nat.le_of_ble_eq_true rfl) ?_
  intro p e s m args below meth c C hne
  generalize va_A (cWd Y S) sz = A at C ⊢
  have C : cC p s m args meth c cX11_matchesByScan 5 (some .int) A D Y tp dp RX11 := C
  refine cg_lv (lv' := [(0, .ref x0), (1, .int x1), (2, .int x2)]) rfl ?_
  unfold kx_X11_matchesByScan at h
  refine cg_aload_n C (i := 0) rfl 0 rfl dX11_matchesByScan_0 ?_
  refine cg_iload_n C (i := 1) rfl 1 rfl dX11_matchesByScan_1 ?_
  obtain ⟨hc_2, h⟩ := h
  rcases h with h | ⟨mc1, ms2, hm_, h⟩
  · obtain ⟨hb_2, h⟩ := h
    refine cg_callr C (t_X11_snapshotOf l x0 x1 S dp h) cc_X11_317 hc_2.1 hc_2.2 (by decide) rfl rfl ⟨by decide, by decide⟩ hb_2 rfl (Nat.le_of_ble_eq_true rfl) dX11_matchesByScan_2 (fun r_3 S_3 h => ?_)
    simp only [Nat.add_zero]
    refine cg_astore_n (lv' := [(3, .ref r_3), (0, .ref x0), (1, .int x1), (2, .int x2)]) C (i := 3) rfl (Nat.le_of_ble_eq_true rfl) rfl dX11_matchesByScan_5 ?_
    refine cg_aload_n C (i := 0) rfl 1 rfl dX11_matchesByScan_6 ?_
    refine cg_iload_n C (i := 2) rfl 3 rfl dX11_matchesByScan_7 ?_
    obtain ⟨hc_8, h⟩ := h
    rcases h with h | ⟨mc4, ms5, hm_, h⟩
    · obtain ⟨hb_8, h⟩ := h
      refine cg_callr C (t_X11_queryOf l x0 x2 S_3 dp h) cc_X11_396 hc_8.1 hc_8.2 (by decide) rfl rfl ⟨by decide, by decide⟩ hb_8 rfl (Nat.le_of_ble_eq_true rfl) dX11_matchesByScan_8 (fun r_6 S_6 h => ?_)
      simp only [Nat.add_zero]
      refine cg_astore (lv' := [(4, .ref r_6), (3, .ref r_3), (0, .ref x0), (1, .int x1), (2, .int x2)]) C (Nat.le_of_ble_eq_true rfl) rfl dX11_matchesByScan_11 ?_
      refine cg_aload_n C (i := 0) rfl 2 rfl dX11_matchesByScan_13 ?_
      obtain ⟨hc_14, h⟩ := h
      obtain ⟨b7, hb_b7, h⟩ := h
      refine cg_get C (k := 11) (j := 12) (.ref b7) hc_14.1 hc_14.2 (by decide) rfl (by decide) rfl (show cV _ 11 12 x0 = _ from congrArg va_rf hb_b7) cWs_wsX110 cl_X11_71 rfl dX11_matchesByScan_14 ?_
      refine cg_aload_n C (i := 3) rfl 1 rfl dX11_matchesByScan_17 ?_
      refine cg_aload C 0 rfl dX11_matchesByScan_18 ?_
      obtain ⟨hc_20, h⟩ := h
      obtain ⟨hb_20, h⟩ := h
      refine cg_calli C (t_X7_scannedCount l b7 r_3 r_6 S_6 dp h) cc_X11_441 hc_20.1 hc_20.2 (by decide) rfl rfl ⟨by decide, by decide⟩ hb_20 rfl (Nat.le_of_ble_eq_true rfl) dX11_matchesByScan_20 (fun r_8 S_8 h => ?_)
      simp only [Nat.add_zero]
      exact h.elim
    · exact cg_callx C hne (tx_X11_queryOf l hlt E mc4 ms5 x0 x2 S_3 dp h) cc_X11_396 hc_8.1 hc_8.2 (by decide) rfl rfl ⟨by decide, by decide⟩ hm_ rfl (Nat.le_of_ble_eq_true rfl) dX11_matchesByScan_8 hm_ (fun _ z => z)
  · exact cg_callx C hne (tx_X11_snapshotOf l hlt E mc1 ms2 x0 x1 S dp h) cc_X11_317 hc_2.1 hc_2.2 (by decide) rfl rfl ⟨by decide, by decide⟩ hm_ rfl (Nat.le_of_ble_eq_true rfl) dX11_matchesByScan_2 hm_ (fun _ z => z)
def kx_X11_facet_84 (E : String) (Q : cS → Prop) (dp : Nat) (mc ms : Nat) (R54 : Int32 → Nat → Int32 → Int32 → Nat → Nat → cS → Prop) (x3 : Int32) (x6 : Nat) (x7 : Int32) (x8 : Int32) (cd dd : Nat) (S : cS) : Prop :=
∀ x8_13 : Int32, x8_13 = x8 + nI 1 → R54 x3 x6 x7 x8_13 cd dd S
def kx_X11_facet_54 (E : String) (Q : cS → Prop) (dp : Nat) (mc ms : Nat) (R54 : Int32 → Nat → Int32 → Int32 → Nat → Nat → cS → Prop) (x3 : Int32) (x6 : Nat) (x7 : Int32) (x8 : Int32) (cd dd : Nat) (S : cS) : Prop :=
cA S x6 12 ∧ ((cd ≤ mc ∧ dd ≤ ms) ∧ (k_Jx4a65c_size_8abf5 (fun r_11 S_11 => 
((r_11 ≤ x8 →
  False) ∧
 (¬ r_11 ≤ x8 →
  cA S_11 x6 12 ∧ ((cd ≤ mc ∧ dd ≤ ms) ∧ (k_Jx4a65c_get_915e3 (fun r_12 S_12 => 
  cA S_12 r_12 0 ∧ (cA S_12 r_12 0 ∧ (((¬ ((ci S_12 1 r_12)) = x3 →
    kx_X11_facet_84 E Q dp mc ms R54 x3 x6 x7 x8 cd dd S_12) ∧
   (((ci S_12 1 r_12)) = x3 →
    ∀ x7_14 : Int32, x7_14 = x7 + nI 1 → kx_X11_facet_84 E Q dp mc ms R54 x3 x6 x7_14 x8 cd dd S_12))))) dp x6 x8 S_11))))) dp x6 S))
def kx_X11_facet_54L (E : String) (Q : cS → Prop) (dp : Nat) (mc ms : Nat)  (x3 : Int32) (x6 : Nat) (x7 : Int32) (x8 : Int32) (cd dd : Nat) (S : cS) : Prop :=
  lfp (X := Int32 × Nat × Int32 × Int32 × Nat × Nat × cS) (fun P y => kx_X11_facet_54 E Q dp mc ms  (fun b0 b1 b2 b3 b4 b5 S => P (b0, b1, b2, b3, b4, b5, S)) y.1 y.2.1 y.2.2.1 y.2.2.2.1 y.2.2.2.2.1 y.2.2.2.2.2.1 y.2.2.2.2.2.2) (x3, x6, x7, x8, cd, dd, S)
def kx_X11_facet (E : String) (Q : cS → Prop) (dp : Nat) (mc ms : Nat) (x0 : Nat) (x1 : Int32) (x2 : Int32) (x3 : Int32) (S : cS) : Prop :=
cA S x0 11 ∧ ((((0 ≤ mc ∧ 0 ≤ ms) ∧ (k_X11_snapshotOf (fun r_3 S_3 => 
cA S_3 x0 11 ∧ ((((0 ≤ mc ∧ 0 ≤ ms) ∧ (k_X11_queryOf (fun r_6 S_6 => 
((x3 < 0 →
  E = "java/lang/IllegalArgumentException" ∧ (0 + 1 ≤ mc ∧ 0 + 6 ≤ ms) ∧ Q S_6) ∧
 (¬ x3 < 0 →
  ((x3 ≤ ((nI 9)) →
    cA S_6 x0 11 ∧ ((∃ b7 : Nat, cr S_6 364 x0 = some b7 ∧ (cA S_6 b7 7 ∧ ((∃ mc8 ms9 : Nat, 0 + mc8 ≤ mc ∧ 0 + ms9 ≤ ms ∧ (k_X7_matched (fun r_10 S_10 => 
    kx_X11_facet_54L E Q dp mc ms  x3 r_10 (((nI 0))) (((nI 0))) (0 + mc8) (0 + ms9) S_10) dp mc8 ms9 b7 r_3 r_6 S_6))))))) ∧
   (¬ x3 ≤ ((nI 9)) →
    E = "java/lang/IllegalArgumentException" ∧ (0 + 1 ≤ mc ∧ 0 + 6 ≤ ms) ∧ Q S_6))))) dp x0 x2 S_3)) ∨
 (∃ mc4 ms5 : Nat, (0 + mc4 ≤ mc ∧ 0 + ms5 ≤ ms) ∧ kx_X11_queryOf E Q dp mc4 ms5 x0 x2 S_3)))) dp x0 x1 S)) ∨
 (∃ mc1 ms2 : Nat, (0 + mc1 ≤ mc ∧ 0 + ms2 ≤ ms) ∧ kx_X11_snapshotOf E Q dp mc1 ms2 x0 x1 S)))
section Sx_X11_facet
variable {p : Program} {l : Launch} {e : Env} {s : State} {m : MethodId} {args : Array Value} {below : List Frame} {meth : Method} {c : Code} {A : Nat → Prop} {D : va_G} {Y : cY} {tp dp : Nat}
set_option maxRecDepth 20000 in
theorem tbx_X11_facet_84 {E : String} {mc ms : Nat} (C : cC p s m args meth c cX11_facet 9 (some .int) A D Y tp dp RX11) (hlt : l.stackTraces = false) (hne : ∀ x ∈ c.exceptionTable.toList, False) {post : cS → Prop} {R54 : Int32 → Nat → Int32 → Int32 → Nat → Nat → cS → Prop} (hR54 : ∀ (x3 : Int32) (x6 : Nat) (x7 : Int32) (x8 : Int32) (cd dd : Nat) (S : cS), R54 x3 x6 x7 x8 cd dd S → cG p l e (cRm 9 mc ms 214) s m args below meth c A D Y 9 (vx_MQ below (fun _ _ _ _ => False) (cXB E post D Y A) args s mc ms A) cd dd 54 [(3, .int x3), (6, .ref x6), (7, .int x7), (8, .int x8)] [] S) (x3 : Int32) (x6 : Nat) (x7 : Int32) (x8 : Int32) (cd dd : Nat) (S : cS) (h : kx_X11_facet_84 E post dp mc ms R54 x3 x6 x7 x8 cd dd S) : cG p l e (cRm 9 mc ms 214) s m args below meth c A D Y 9 (vx_MQ below (fun _ _ _ _ => False) (cXB E post D Y A) args s mc ms A) cd dd 84 [(3, .int x3), (6, .ref x6), (7, .int x7), (8, .int x8)] [] S := by
  unfold kx_X11_facet_84 at h
  obtain ⟨x8_13, e_x8_13⟩ : ∃ z : Int32, z = x8 + nI 1 := ⟨_, rfl⟩
  have h := h x8_13 e_x8_13
  refine cg_iinc C (lv' := [(8, .int x8_13), (3, .int x3), (6, .ref x6), (7, .int x7)]) 3 rfl (by rw [e_x8_13]; rfl) (Nat.le_of_ble_eq_true rfl) rfl dX11_facet_84 ?_
  refine cg_goto C 54 (by decide) dX11_facet_87 ?_
  exact cg_sub [1, 2, 3, 0] rfl (hR54 x3 x6 x7 x8_13 cd dd S h)
set_option maxRecDepth 20000 in
theorem tbx_X11_facet_54 {E : String} {mc ms : Nat} (C : cC p s m args meth c cX11_facet 9 (some .int) A D Y tp dp RX11) (hlt : l.stackTraces = false) (hne : ∀ x ∈ c.exceptionTable.toList, False) {post : cS → Prop} {R54 : Int32 → Nat → Int32 → Int32 → Nat → Nat → cS → Prop} (hR54 : ∀ (x3 : Int32) (x6 : Nat) (x7 : Int32) (x8 : Int32) (cd dd : Nat) (S : cS), R54 x3 x6 x7 x8 cd dd S → cG p l e (cRm 9 mc ms 214) s m args below meth c A D Y 9 (vx_MQ below (fun _ _ _ _ => False) (cXB E post D Y A) args s mc ms A) cd dd 54 [(3, .int x3), (6, .ref x6), (7, .int x7), (8, .int x8)] [] S) (x3 : Int32) (x6 : Nat) (x7 : Int32) (x8 : Int32) (cd dd : Nat) (S : cS) (h : kx_X11_facet_54 E post dp mc ms R54 x3 x6 x7 x8 cd dd S) : cG p l e (cRm 9 mc ms 214) s m args below meth c A D Y 9 (vx_MQ below (fun _ _ _ _ => False) (cXB E post D Y A) args s mc ms A) cd dd 54 [(3, .int x3), (6, .ref x6), (7, .int x7), (8, .int x8)] [] S := by
  unfold kx_X11_facet_54 at h
  refine cg_iload C 3 rfl dX11_facet_54 ?_
  refine cg_aload C 1 rfl dX11_facet_56 ?_
  obtain ⟨hc_58, h⟩ := h
  obtain ⟨hb_58, h⟩ := h
  refine cg_calli C (t_Jx4a65c_size_8abf5 l x6 S dp h) cc_X11_180 hc_58.1 hc_58.2 (by decide) rfl rfl ⟨by decide, by decide⟩ hb_58 rfl (Nat.le_of_ble_eq_true rfl) dX11_facet_58 (fun r_11 S_11 h => ?_)
  simp only [Nat.add_zero]
  refine cg_icmp_ge C 90 (by decide) dX11_facet_61 (fun c_ => ?_) (fun c_ => ?_)
  · have h := h.1 c_
    refine cg_iload C 2 rfl dX11_facet_90 ?_
    exact h.elim
  · have h := h.2 c_
    refine cg_aload C 1 rfl dX11_facet_64 ?_
    refine cg_iload C 3 rfl dX11_facet_66 ?_
    obtain ⟨hc_68, h⟩ := h
    obtain ⟨hb_68, h⟩ := h
    refine cg_callr C (t_Jx4a65c_get_915e3 l x6 x8 S_11 dp h) cc_X11_277 hc_68.1 hc_68.2 (by decide) rfl rfl ⟨by decide, by decide⟩ hb_68 rfl (Nat.le_of_ble_eq_true rfl) dX11_facet_68 (fun r_12 S_12 h => ?_)
    simp only [Nat.add_zero]
    obtain ⟨hc_71, h⟩ := h
    refine cg_ccast C (k := 0) hc_71.1 hc_71.2 (by decide) rfl cnc_X11_16 dX11_facet_71 ?_
    obtain ⟨hc_74, h⟩ := h
    refine cg_get C (k := 0) (j := 1) (.int (ci S_12 1 r_12)) hc_74.1 hc_74.2 (by decide) rfl (by decide) rfl rfl cWs_wsX00 cl_X11_168 rfl dX11_facet_74 ?_
    refine cg_iload_n C (i := 3) rfl 0 rfl dX11_facet_77 ?_
    refine cg_icmp_ne C 84 (by decide) dX11_facet_78 (fun c_ => ?_) (fun c_ => ?_)
    · have h := h.1 c_
      exact cg_sub [0, 1, 2, 3] rfl (tbx_X11_facet_84 C hlt hne hR54 x3 x6 x7 x8 cd dd S_12 h)
    · have h := h.2 c_
      obtain ⟨x7_14, e_x7_14⟩ : ∃ z : Int32, z = x7 + nI 1 := ⟨_, rfl⟩
      have h := h x7_14 e_x7_14
      refine cg_iinc C (lv' := [(7, .int x7_14), (3, .int x3), (6, .ref x6), (8, .int x8)]) 2 rfl (by rw [e_x7_14]; rfl) (Nat.le_of_ble_eq_true rfl) rfl dX11_facet_81 ?_
      exact cg_sub [1, 2, 0, 3] rfl (tbx_X11_facet_84 C hlt hne hR54 x3 x6 x7_14 x8 cd dd S_12 h)
set_option maxRecDepth 20000 in
theorem tlx_X11_facet_54 {E : String} {mc ms : Nat} (C : cC p s m args meth c cX11_facet 9 (some .int) A D Y tp dp RX11) (hlt : l.stackTraces = false) (hne : ∀ x ∈ c.exceptionTable.toList, False) {post : cS → Prop}   (x3 : Int32) (x6 : Nat) (x7 : Int32) (x8 : Int32) (cd dd : Nat) (S : cS) (h : kx_X11_facet_54L E post dp mc ms  x3 x6 x7 x8 cd dd S) : cG p l e (cRm 9 mc ms 214) s m args below meth c A D Y 9 (vx_MQ below (fun _ _ _ _ => False) (cXB E post D Y A) args s mc ms A) cd dd 54 [(3, .int x3), (6, .ref x6), (7, .int x7), (8, .int x8)] [] S :=
  h (fun y => cG p l e (cRm 9 mc ms 214) s m args below meth c A D Y 9 (vx_MQ below (fun _ _ _ _ => False) (cXB E post D Y A) args s mc ms A) (y.2.2.2.2.1) (y.2.2.2.2.2.1) 54 [(3, .int (y.1)), (6, .ref (y.2.1)), (7, .int (y.2.2.1)), (8, .int (y.2.2.2.1))] [] (y.2.2.2.2.2.2)) (fun y hy => tbx_X11_facet_54 C hlt hne  (fun b0 b1 b2 b3 b4 b5 S z => z) (y.1) (y.2.1) (y.2.2.1) (y.2.2.2.1) (y.2.2.2.2.1) (y.2.2.2.2.2.1) (y.2.2.2.2.2.2) hy)
end Sx_X11_facet
set_option maxHeartbeats 1000000 in
set_option maxRecDepth 20000 in
theorem tx_X11_facet (l : Launch) (hlt : l.stackTraces = false) (E : String) (mc ms : Nat) (x0 : Nat) (x1 : Int32) (x2 : Int32) (x3 : Int32) (S : cS) (dp : Nat) {P : cS → Prop} (h : kx_X11_facet E P dp mc ms x0 x1 x2 x3 S) : cMetX E P l yX11_facet cX11_facet 9 (some .int) 9 mc ms 214 [.ref x0, .int x1, .int x2, .int x3] S dp := by
  intro D Y tp sz
  refine cg_bodyX (by decide +kernel) (Nat.le_of_ble_eq_true rfl) ?_
  intro p e s m args below meth c C hne
  generalize va_A (cWd Y S) sz = A at C ⊢
  have C : cC p s m args meth c cX11_facet 9 (some .int) A D Y tp dp RX11 := C
  refine cg_lv (lv' := [(0, .ref x0), (1, .int x1), (2, .int x2), (3, .int x3)]) rfl ?_
  unfold kx_X11_facet at h
  refine cg_aload_n C (i := 0) rfl 0 rfl dX11_facet_0 ?_
  refine cg_iload_n C (i := 1) rfl 1 rfl dX11_facet_1 ?_
  obtain ⟨hc_2, h⟩ := h
  rcases h with h | ⟨mc1, ms2, hm_, h⟩
  · obtain ⟨hb_2, h⟩ := h
    refine cg_callr C (t_X11_snapshotOf l x0 x1 S dp h) cc_X11_317 hc_2.1 hc_2.2 (by decide) rfl rfl ⟨by decide, by decide⟩ hb_2 rfl (Nat.le_of_ble_eq_true rfl) dX11_facet_2 (fun r_3 S_3 h => ?_)
    simp only [Nat.add_zero]
    refine cg_astore (lv' := [(4, .ref r_3), (0, .ref x0), (1, .int x1), (2, .int x2), (3, .int x3)]) C (Nat.le_of_ble_eq_true rfl) rfl dX11_facet_5 ?_
    refine cg_aload_n C (i := 0) rfl 1 rfl dX11_facet_7 ?_
    refine cg_iload_n C (i := 2) rfl 3 rfl dX11_facet_8 ?_
    obtain ⟨hc_9, h⟩ := h
    rcases h with h | ⟨mc4, ms5, hm_, h⟩
    · obtain ⟨hb_9, h⟩ := h
      refine cg_callr C (t_X11_queryOf l x0 x2 S_3 dp h) cc_X11_396 hc_9.1 hc_9.2 (by decide) rfl rfl ⟨by decide, by decide⟩ hb_9 rfl (Nat.le_of_ble_eq_true rfl) dX11_facet_9 (fun r_6 S_6 h => ?_)
      simp only [Nat.add_zero]
      refine cg_astore (lv' := [(5, .ref r_6), (4, .ref r_3), (0, .ref x0), (1, .int x1), (2, .int x2), (3, .int x3)]) C (Nat.le_of_ble_eq_true rfl) rfl dX11_facet_12 ?_
      refine cg_iload_n C (i := 3) rfl 5 rfl dX11_facet_14 ?_
      refine cg_if_lt C 24 (by decide) dX11_facet_15 (fun c_ => ?_) (fun c_ => ?_)
      · have h := h.1 c_
        obtain ⟨hE_, hb_, h⟩ := h
        rw [hE_]
        exact cg_throw1W C hlt hne "the category is out of range" ce_X11_100 cei_1 (by decide) dX11_facet_24 dX11_facet_27 dX11_facet_28 dX11_facet_31 dX11_facet_34 (by decide) (Nat.le_of_ble_eq_true rfl) hb_ hb_ h
      · have h := h.2 c_
        refine cg_iload_n C (i := 3) rfl 5 rfl dX11_facet_18 ?_
        refine cg_bipush C (x := nI 9) rfl dX11_facet_19 ?_
        refine cg_icmp_le C 35 (by decide) dX11_facet_21 (fun c_ => ?_) (fun c_ => ?_)
        · have h := h.1 c_
          refine cg_aload_n C (i := 0) rfl 2 rfl dX11_facet_35 ?_
          obtain ⟨hc_36, h⟩ := h
          obtain ⟨b7, hb_b7, h⟩ := h
          refine cg_get C (k := 11) (j := 12) (.ref b7) hc_36.1 hc_36.2 (by decide) rfl (by decide) rfl (show cV _ 11 12 x0 = _ from congrArg va_rf hb_b7) cWs_wsX110 cl_X11_71 rfl dX11_facet_36 ?_
          refine cg_aload C 1 rfl dX11_facet_39 ?_
          refine cg_aload C 0 rfl dX11_facet_41 ?_
          obtain ⟨hc_43, h⟩ := h
          obtain ⟨mc8, ms9, hm_1, hm_2, h⟩ := h
          refine cg_callr C (t_X7_matched l mc8 ms9 b7 r_3 r_6 S_6 dp h) cc_X11_437 hc_43.1 hc_43.2 (by decide) rfl rfl ⟨by decide, by decide⟩ ⟨hm_1, hm_2⟩ rfl (Nat.le_of_ble_eq_true rfl) dX11_facet_43 (fun r_10 S_10 h => ?_)
          refine cg_astore (lv' := [(6, .ref r_10), (5, .ref r_6), (4, .ref r_3), (0, .ref x0), (1, .int x1), (2, .int x2), (3, .int x3)]) C (Nat.le_of_ble_eq_true rfl) rfl dX11_facet_46 ?_
          refine cg_iconst C (x := nI 0) rfl dX11_facet_48 ?_
          refine cg_istore C (lv' := [(7, .int ((nI 0))), (6, .ref r_10), (5, .ref r_6), (4, .ref r_3), (0, .ref x0), (1, .int x1), (2, .int x2), (3, .int x3)]) (Nat.le_of_ble_eq_true rfl) rfl dX11_facet_49 ?_
          refine cg_iconst C (x := nI 0) rfl dX11_facet_51 ?_
          refine cg_istore C (lv' := [(8, .int ((nI 0))), (7, .int ((nI 0))), (6, .ref r_10), (5, .ref r_6), (4, .ref r_3), (0, .ref x0), (1, .int x1), (2, .int x2), (3, .int x3)]) (Nat.le_of_ble_eq_true rfl) rfl dX11_facet_52 ?_
          exact cg_sub [8, 2, 1, 0] rfl (tlx_X11_facet_54 C hlt hne  x3 r_10 (((nI 0))) (((nI 0))) (0 + mc8) (0 + ms9) S_10 h)
        · have h := h.2 c_
          obtain ⟨hE_, hb_, h⟩ := h
          rw [hE_]
          exact cg_throw1W C hlt hne "the category is out of range" ce_X11_100 cei_1 (by decide) dX11_facet_24 dX11_facet_27 dX11_facet_28 dX11_facet_31 dX11_facet_34 (by decide) (Nat.le_of_ble_eq_true rfl) hb_ hb_ h
    · exact cg_callx C hne (tx_X11_queryOf l hlt E mc4 ms5 x0 x2 S_3 dp h) cc_X11_396 hc_9.1 hc_9.2 (by decide) rfl rfl ⟨by decide, by decide⟩ hm_ rfl (Nat.le_of_ble_eq_true rfl) dX11_facet_9 hm_ (fun _ z => z)
  · exact cg_callx C hne (tx_X11_snapshotOf l hlt E mc1 ms2 x0 x1 S dp h) cc_X11_317 hc_2.1 hc_2.2 (by decide) rfl rfl ⟨by decide, by decide⟩ hm_ rfl (Nat.le_of_ble_eq_true rfl) dX11_facet_2 hm_ (fun _ z => z)
def kx_X11_sortedAt_30 (E : String) (Q : cS → Prop) (dp : Nat) (mc ms : Nat) (R30 : Int32 → Int32 → Nat → Int32 → Nat → Nat → cS → Prop) (x3 : Int32) (x4 : Int32) (x7 : Nat) (x8 : Int32) (cd dd : Nat) (S : cS) : Prop :=
cA S x7 12 ∧ ((cd ≤ mc ∧ dd ≤ ms) ∧ (k_Jx4a65c_size_8abf5 (fun r_11 S_11 => 
((r_11 ≤ x8 →
  E = "java/lang/IndexOutOfBoundsException" ∧ (cd + 1 ≤ mc ∧ dd + 6 ≤ ms) ∧ Q S_11) ∧
 (¬ r_11 ≤ x8 →
  (cd ≤ mc ∧ dd ≤ ms) ∧ (k_X11_sortedPlace (fun r_12 S_12 => 
  ((¬ r_12 = x4 →
    ∀ x8_13 : Int32, x8_13 = x8 + nI 1 → R30 x3 x4 x7 x8_13 cd dd S_12) ∧
   (r_12 = x4 →
    cA S_12 x7 12 ∧ ((cd ≤ mc ∧ dd ≤ ms) ∧ (k_Jx4a65c_get_915e3 (fun r_14 S_14 => 
    cA S_14 r_14 0 ∧ (cA S_14 r_14 0 ∧ (False))) dp x7 x8 S_12))))) dp x7 x8 x3 S_11)))) dp x7 S))
def kx_X11_sortedAt_30L (E : String) (Q : cS → Prop) (dp : Nat) (mc ms : Nat)  (x3 : Int32) (x4 : Int32) (x7 : Nat) (x8 : Int32) (cd dd : Nat) (S : cS) : Prop :=
  lfp (X := Int32 × Int32 × Nat × Int32 × Nat × Nat × cS) (fun P y => kx_X11_sortedAt_30 E Q dp mc ms  (fun b0 b1 b2 b3 b4 b5 S => P (b0, b1, b2, b3, b4, b5, S)) y.1 y.2.1 y.2.2.1 y.2.2.2.1 y.2.2.2.2.1 y.2.2.2.2.2.1 y.2.2.2.2.2.2) (x3, x4, x7, x8, cd, dd, S)
def kx_X11_sortedAt (E : String) (Q : cS → Prop) (dp : Nat) (mc ms : Nat) (x0 : Nat) (x1 : Int32) (x2 : Int32) (x3 : Int32) (x4 : Int32) (S : cS) : Prop :=
cA S x0 11 ∧ ((((0 ≤ mc ∧ 0 ≤ ms) ∧ (k_X11_snapshotOf (fun r_3 S_3 => 
cA S_3 x0 11 ∧ ((((0 ≤ mc ∧ 0 ≤ ms) ∧ (k_X11_queryOf (fun r_6 S_6 => 
cA S_6 x0 11 ∧ ((∃ b7 : Nat, cr S_6 364 x0 = some b7 ∧ (cA S_6 b7 7 ∧ ((∃ mc8 ms9 : Nat, 0 + mc8 ≤ mc ∧ 0 + ms9 ≤ ms ∧ (k_X7_matched (fun r_10 S_10 => 
kx_X11_sortedAt_30L E Q dp mc ms  x3 x4 r_10 (((nI 0))) (0 + mc8) (0 + ms9) S_10) dp mc8 ms9 b7 r_3 r_6 S_6))))))) dp x0 x2 S_3)) ∨
 (∃ mc4 ms5 : Nat, (0 + mc4 ≤ mc ∧ 0 + ms5 ≤ ms) ∧ kx_X11_queryOf E Q dp mc4 ms5 x0 x2 S_3)))) dp x0 x1 S)) ∨
 (∃ mc1 ms2 : Nat, (0 + mc1 ≤ mc ∧ 0 + ms2 ≤ ms) ∧ kx_X11_snapshotOf E Q dp mc1 ms2 x0 x1 S)))
section Sx_X11_sortedAt
variable {p : Program} {l : Launch} {e : Env} {s : State} {m : MethodId} {args : Array Value} {below : List Frame} {meth : Method} {c : Code} {A : Nat → Prop} {D : va_G} {Y : cY} {tp dp : Nat}
set_option maxRecDepth 20000 in
theorem tbx_X11_sortedAt_30 {E : String} {mc ms : Nat} (C : cC p s m args meth c cX11_sortedAt 9 (some .int) A D Y tp dp RX11) (hlt : l.stackTraces = false) (hne : ∀ x ∈ c.exceptionTable.toList, False) {post : cS → Prop} {R30 : Int32 → Int32 → Nat → Int32 → Nat → Nat → cS → Prop} (hR30 : ∀ (x3 : Int32) (x4 : Int32) (x7 : Nat) (x8 : Int32) (cd dd : Nat) (S : cS), R30 x3 x4 x7 x8 cd dd S → cG p l e (cRm 9 mc ms 214) s m args below meth c A D Y 9 (vx_MQ below (fun _ _ _ _ => False) (cXB E post D Y A) args s mc ms A) cd dd 30 [(3, .int x3), (4, .int x4), (7, .ref x7), (8, .int x8)] [] S) (x3 : Int32) (x4 : Int32) (x7 : Nat) (x8 : Int32) (cd dd : Nat) (S : cS) (h : kx_X11_sortedAt_30 E post dp mc ms R30 x3 x4 x7 x8 cd dd S) : cG p l e (cRm 9 mc ms 214) s m args below meth c A D Y 9 (vx_MQ below (fun _ _ _ _ => False) (cXB E post D Y A) args s mc ms A) cd dd 30 [(3, .int x3), (4, .int x4), (7, .ref x7), (8, .int x8)] [] S := by
  unfold kx_X11_sortedAt_30 at h
  refine cg_iload C 3 rfl dX11_sortedAt_30 ?_
  refine cg_aload C 2 rfl dX11_sortedAt_32 ?_
  obtain ⟨hc_34, h⟩ := h
  obtain ⟨hb_34, h⟩ := h
  refine cg_calli C (t_Jx4a65c_size_8abf5 l x7 S dp h) cc_X11_180 hc_34.1 hc_34.2 (by decide) rfl rfl ⟨by decide, by decide⟩ hb_34 rfl (Nat.le_of_ble_eq_true rfl) dX11_sortedAt_34 (fun r_11 S_11 h => ?_)
  simp only [Nat.add_zero]
  refine cg_icmp_ge C 73 (by decide) dX11_sortedAt_37 (fun c_ => ?_) (fun c_ => ?_)
  · have h := h.1 c_
    obtain ⟨hE_, hb_, h⟩ := h
    rw [hE_]
    exact cg_throw3W C hlt hne "there are not so many" ce_X11_269 cei_3 (by decide) dX11_sortedAt_73 dX11_sortedAt_76 dX11_sortedAt_77 dX11_sortedAt_80 dX11_sortedAt_83 (by decide) (Nat.le_of_ble_eq_true rfl) hb_ hb_ h
  · have h := h.2 c_
    refine cg_aload C 2 rfl dX11_sortedAt_40 ?_
    refine cg_iload C 3 rfl dX11_sortedAt_42 ?_
    refine cg_iload_n C (i := 3) rfl 0 rfl dX11_sortedAt_44 ?_
    obtain ⟨hb_45, h⟩ := h
    refine cg_callsi C (t_X11_sortedPlace l x7 x8 x3 S_11 dp h) cc_X11_447 rfl ⟨by decide, by decide⟩ hb_45 rfl (Nat.le_of_ble_eq_true rfl) dX11_sortedAt_45 (fun r_12 S_12 h => ?_)
    simp only [Nat.add_zero]
    refine cg_iload C 1 rfl dX11_sortedAt_48 ?_
    refine cg_icmp_ne C 67 (by decide) dX11_sortedAt_50 (fun c_ => ?_) (fun c_ => ?_)
    · have h := h.1 c_
      obtain ⟨x8_13, e_x8_13⟩ : ∃ z : Int32, z = x8 + nI 1 := ⟨_, rfl⟩
      have h := h x8_13 e_x8_13
      refine cg_iinc C (lv' := [(8, .int x8_13), (3, .int x3), (4, .int x4), (7, .ref x7)]) 3 rfl (by rw [e_x8_13]; rfl) (Nat.le_of_ble_eq_true rfl) rfl dX11_sortedAt_67 ?_
      refine cg_goto C 30 (by decide) dX11_sortedAt_70 ?_
      exact cg_sub [1, 2, 3, 0] rfl (hR30 x3 x4 x7 x8_13 cd dd S_12 h)
    · have h := h.2 c_
      refine cg_aload C 2 rfl dX11_sortedAt_53 ?_
      refine cg_iload C 3 rfl dX11_sortedAt_55 ?_
      obtain ⟨hc_57, h⟩ := h
      obtain ⟨hb_57, h⟩ := h
      refine cg_callr C (t_Jx4a65c_get_915e3 l x7 x8 S_12 dp h) cc_X11_277 hc_57.1 hc_57.2 (by decide) rfl rfl ⟨by decide, by decide⟩ hb_57 rfl (Nat.le_of_ble_eq_true rfl) dX11_sortedAt_57 (fun r_14 S_14 h => ?_)
      simp only [Nat.add_zero]
      obtain ⟨hc_60, h⟩ := h
      refine cg_ccast C (k := 0) hc_60.1 hc_60.2 (by decide) rfl cnc_X11_16 dX11_sortedAt_60 ?_
      obtain ⟨hc_63, h⟩ := h
      refine cg_get C (k := 0) (j := 0) (.int (ci S_14 0 r_14)) hc_63.1 hc_63.2 (by decide) rfl (by decide) rfl rfl cWs_wsX00 cl_X11_193 rfl dX11_sortedAt_63 ?_
      exact h.elim
set_option maxRecDepth 20000 in
theorem tlx_X11_sortedAt_30 {E : String} {mc ms : Nat} (C : cC p s m args meth c cX11_sortedAt 9 (some .int) A D Y tp dp RX11) (hlt : l.stackTraces = false) (hne : ∀ x ∈ c.exceptionTable.toList, False) {post : cS → Prop}   (x3 : Int32) (x4 : Int32) (x7 : Nat) (x8 : Int32) (cd dd : Nat) (S : cS) (h : kx_X11_sortedAt_30L E post dp mc ms  x3 x4 x7 x8 cd dd S) : cG p l e (cRm 9 mc ms 214) s m args below meth c A D Y 9 (vx_MQ below (fun _ _ _ _ => False) (cXB E post D Y A) args s mc ms A) cd dd 30 [(3, .int x3), (4, .int x4), (7, .ref x7), (8, .int x8)] [] S :=
  h (fun y => cG p l e (cRm 9 mc ms 214) s m args below meth c A D Y 9 (vx_MQ below (fun _ _ _ _ => False) (cXB E post D Y A) args s mc ms A) (y.2.2.2.2.1) (y.2.2.2.2.2.1) 30 [(3, .int (y.1)), (4, .int (y.2.1)), (7, .ref (y.2.2.1)), (8, .int (y.2.2.2.1))] [] (y.2.2.2.2.2.2)) (fun y hy => tbx_X11_sortedAt_30 C hlt hne  (fun b0 b1 b2 b3 b4 b5 S z => z) (y.1) (y.2.1) (y.2.2.1) (y.2.2.2.1) (y.2.2.2.2.1) (y.2.2.2.2.2.1) (y.2.2.2.2.2.2) hy)
end Sx_X11_sortedAt
set_option maxHeartbeats 1000000 in
set_option maxRecDepth 20000 in
theorem tx_X11_sortedAt (l : Launch) (hlt : l.stackTraces = false) (E : String) (mc ms : Nat) (x0 : Nat) (x1 : Int32) (x2 : Int32) (x3 : Int32) (x4 : Int32) (S : cS) (dp : Nat) {P : cS → Prop} (h : kx_X11_sortedAt E P dp mc ms x0 x1 x2 x3 x4 S) : cMetX E P l yX11_sortedAt cX11_sortedAt 9 (some .int) 9 mc ms 214 [.ref x0, .int x1, .int x2, .int x3, .int x4] S dp := by
  intro D Y tp sz
  refine cg_bodyX (by decide +kernel) (Nat.le_of_ble_eq_true rfl) ?_
  intro p e s m args below meth c C hne
  generalize va_A (cWd Y S) sz = A at C ⊢
  have C : cC p s m args meth c cX11_sortedAt 9 (some .int) A D Y tp dp RX11 := C
  refine cg_lv (lv' := [(0, .ref x0), (1, .int x1), (2, .int x2), (3, .int x3), (4, .int x4)]) rfl ?_
  unfold kx_X11_sortedAt at h
  refine cg_aload_n C (i := 0) rfl 0 rfl dX11_sortedAt_0 ?_
  refine cg_iload_n C (i := 1) rfl 1 rfl dX11_sortedAt_1 ?_
  obtain ⟨hc_2, h⟩ := h
  rcases h with h | ⟨mc1, ms2, hm_, h⟩
  · obtain ⟨hb_2, h⟩ := h
    refine cg_callr C (t_X11_snapshotOf l x0 x1 S dp h) cc_X11_317 hc_2.1 hc_2.2 (by decide) rfl rfl ⟨by decide, by decide⟩ hb_2 rfl (Nat.le_of_ble_eq_true rfl) dX11_sortedAt_2 (fun r_3 S_3 h => ?_)
    simp only [Nat.add_zero]
    refine cg_astore (lv' := [(5, .ref r_3), (0, .ref x0), (1, .int x1), (2, .int x2), (3, .int x3), (4, .int x4)]) C (Nat.le_of_ble_eq_true rfl) rfl dX11_sortedAt_5 ?_
    refine cg_aload_n C (i := 0) rfl 1 rfl dX11_sortedAt_7 ?_
    refine cg_iload_n C (i := 2) rfl 3 rfl dX11_sortedAt_8 ?_
    obtain ⟨hc_9, h⟩ := h
    rcases h with h | ⟨mc4, ms5, hm_, h⟩
    · obtain ⟨hb_9, h⟩ := h
      refine cg_callr C (t_X11_queryOf l x0 x2 S_3 dp h) cc_X11_396 hc_9.1 hc_9.2 (by decide) rfl rfl ⟨by decide, by decide⟩ hb_9 rfl (Nat.le_of_ble_eq_true rfl) dX11_sortedAt_9 (fun r_6 S_6 h => ?_)
      simp only [Nat.add_zero]
      refine cg_astore (lv' := [(6, .ref r_6), (5, .ref r_3), (0, .ref x0), (1, .int x1), (2, .int x2), (3, .int x3), (4, .int x4)]) C (Nat.le_of_ble_eq_true rfl) rfl dX11_sortedAt_12 ?_
      refine cg_aload_n C (i := 0) rfl 2 rfl dX11_sortedAt_14 ?_
      obtain ⟨hc_15, h⟩ := h
      obtain ⟨b7, hb_b7, h⟩ := h
      refine cg_get C (k := 11) (j := 12) (.ref b7) hc_15.1 hc_15.2 (by decide) rfl (by decide) rfl (show cV _ 11 12 x0 = _ from congrArg va_rf hb_b7) cWs_wsX110 cl_X11_71 rfl dX11_sortedAt_15 ?_
      refine cg_aload C 1 rfl dX11_sortedAt_18 ?_
      refine cg_aload C 0 rfl dX11_sortedAt_20 ?_
      obtain ⟨hc_22, h⟩ := h
      obtain ⟨mc8, ms9, hm_1, hm_2, h⟩ := h
      refine cg_callr C (t_X7_matched l mc8 ms9 b7 r_3 r_6 S_6 dp h) cc_X11_437 hc_22.1 hc_22.2 (by decide) rfl rfl ⟨by decide, by decide⟩ ⟨hm_1, hm_2⟩ rfl (Nat.le_of_ble_eq_true rfl) dX11_sortedAt_22 (fun r_10 S_10 h => ?_)
      refine cg_astore (lv' := [(7, .ref r_10), (6, .ref r_6), (5, .ref r_3), (0, .ref x0), (1, .int x1), (2, .int x2), (3, .int x3), (4, .int x4)]) C (Nat.le_of_ble_eq_true rfl) rfl dX11_sortedAt_25 ?_
      refine cg_iconst C (x := nI 0) rfl dX11_sortedAt_27 ?_
      refine cg_istore C (lv' := [(8, .int ((nI 0))), (7, .ref r_10), (6, .ref r_6), (5, .ref r_3), (0, .ref x0), (1, .int x1), (2, .int x2), (3, .int x3), (4, .int x4)]) (Nat.le_of_ble_eq_true rfl) rfl dX11_sortedAt_28 ?_
      exact cg_sub [7, 8, 1, 0] rfl (tlx_X11_sortedAt_30 C hlt hne  x3 x4 r_10 (((nI 0))) (0 + mc8) (0 + ms9) S_10 h)
    · exact cg_callx C hne (tx_X11_queryOf l hlt E mc4 ms5 x0 x2 S_3 dp h) cc_X11_396 hc_9.1 hc_9.2 (by decide) rfl rfl ⟨by decide, by decide⟩ hm_ rfl (Nat.le_of_ble_eq_true rfl) dX11_sortedAt_9 hm_ (fun _ z => z)
  · exact cg_callx C hne (tx_X11_snapshotOf l hlt E mc1 ms2 x0 x1 S dp h) cc_X11_317 hc_2.1 hc_2.2 (by decide) rfl rfl ⟨by decide, by decide⟩ hm_ rfl (Nat.le_of_ble_eq_true rfl) dX11_sortedAt_2 hm_ (fun _ z => z)
def kx_X11_passages (E : String) (Q : cS → Prop) (dp : Nat) (mc ms : Nat) (x0 : Nat) (x1 : Int32) (x2 : Int32) (x3 : Int32) (x4 : Int32) (S : cS) : Prop :=
cA S x0 11 ∧ ((((0 ≤ mc ∧ 0 ≤ ms) ∧ (k_X11_snapshotOf (fun r_3 S_3 => 
cA S_3 x0 11 ∧ ((((0 ≤ mc ∧ 0 ≤ ms) ∧ (k_X11_queryOf (fun r_6 S_6 => 
(((0 ≤ mc ∧ 0 ≤ ms) ∧ (k_X11_checkKey (fun S_9 => 
(((0 ≤ mc ∧ 0 ≤ ms) ∧ (k_X11_checkField (fun S_12 => 
cA S_12 x0 11 ∧ ((∃ b13 : Nat, cr S_12 365 x0 = some b13 ∧ (cA S_12 r_3 10 ∧ ((0 ≤ mc ∧ 0 ≤ ms) ∧ (k_X10_liveDocument (fun r_14 S_14 => 
((r_14 = none →
  cA S_14 b13 1 ∧ ((0 ≤ mc ∧ 0 ≤ ms) ∧ (k_X1_readPassages (fun r_16 S_16 => 
  False) dp b13 none r_6 x4 S_14))) ∧
 (∀ b15 : Nat, r_14 = some b15 →
  cA S_14 b13 1 ∧ ((0 ≤ mc ∧ 0 ≤ ms) ∧ (k_X1_readPassages (fun r_17 S_17 => 
  False) dp b13 (some b15) r_6 x4 S_14))))) dp r_3 x3 S_12)))))) dp x4 S_9)) ∨
 (∃ mc10 ms11 : Nat, (0 + mc10 ≤ mc ∧ 0 + ms11 ≤ ms) ∧ kx_X11_checkField E Q dp mc10 ms11 x4 S_9))) dp x3 S_6)) ∨
 (∃ mc7 ms8 : Nat, (0 + mc7 ≤ mc ∧ 0 + ms8 ≤ ms) ∧ kx_X11_checkKey E Q dp mc7 ms8 x3 S_6))) dp x0 x2 S_3)) ∨
 (∃ mc4 ms5 : Nat, (0 + mc4 ≤ mc ∧ 0 + ms5 ≤ ms) ∧ kx_X11_queryOf E Q dp mc4 ms5 x0 x2 S_3)))) dp x0 x1 S)) ∨
 (∃ mc1 ms2 : Nat, (0 + mc1 ≤ mc ∧ 0 + ms2 ≤ ms) ∧ kx_X11_snapshotOf E Q dp mc1 ms2 x0 x1 S)))
set_option maxHeartbeats 1000000 in
set_option maxRecDepth 20000 in
theorem tx_X11_passages (l : Launch) (hlt : l.stackTraces = false) (E : String) (mc ms : Nat) (x0 : Nat) (x1 : Int32) (x2 : Int32) (x3 : Int32) (x4 : Int32) (S : cS) (dp : Nat) {P : cS → Prop} (h : kx_X11_passages E P dp mc ms x0 x1 x2 x3 x4 S) : cMetX E P l yX11_passages cX11_passages 7 (some .int) 7 mc ms 174 [.ref x0, .int x1, .int x2, .int x3, .int x4] S dp := by
  intro D Y tp sz
  refine cg_bodyX (by decide +kernel) (Nat.le_of_ble_eq_true rfl) ?_
  intro p e s m args below meth c C hne
  generalize va_A (cWd Y S) sz = A at C ⊢
  have C : cC p s m args meth c cX11_passages 7 (some .int) A D Y tp dp RX11 := C
  refine cg_lv (lv' := [(0, .ref x0), (1, .int x1), (2, .int x2), (3, .int x3), (4, .int x4)]) rfl ?_
  unfold kx_X11_passages at h
  refine cg_aload_n C (i := 0) rfl 0 rfl dX11_passages_0 ?_
  refine cg_iload_n C (i := 1) rfl 1 rfl dX11_passages_1 ?_
  obtain ⟨hc_2, h⟩ := h
  rcases h with h | ⟨mc1, ms2, hm_, h⟩
  · obtain ⟨hb_2, h⟩ := h
    refine cg_callr C (t_X11_snapshotOf l x0 x1 S dp h) cc_X11_317 hc_2.1 hc_2.2 (by decide) rfl rfl ⟨by decide, by decide⟩ hb_2 rfl (Nat.le_of_ble_eq_true rfl) dX11_passages_2 (fun r_3 S_3 h => ?_)
    simp only [Nat.add_zero]
    refine cg_astore (lv' := [(5, .ref r_3), (0, .ref x0), (1, .int x1), (2, .int x2), (3, .int x3), (4, .int x4)]) C (Nat.le_of_ble_eq_true rfl) rfl dX11_passages_5 ?_
    refine cg_aload_n C (i := 0) rfl 1 rfl dX11_passages_7 ?_
    refine cg_iload_n C (i := 2) rfl 3 rfl dX11_passages_8 ?_
    obtain ⟨hc_9, h⟩ := h
    rcases h with h | ⟨mc4, ms5, hm_, h⟩
    · obtain ⟨hb_9, h⟩ := h
      refine cg_callr C (t_X11_queryOf l x0 x2 S_3 dp h) cc_X11_396 hc_9.1 hc_9.2 (by decide) rfl rfl ⟨by decide, by decide⟩ hb_9 rfl (Nat.le_of_ble_eq_true rfl) dX11_passages_9 (fun r_6 S_6 h => ?_)
      simp only [Nat.add_zero]
      refine cg_astore (lv' := [(6, .ref r_6), (5, .ref r_3), (0, .ref x0), (1, .int x1), (2, .int x2), (3, .int x3), (4, .int x4)]) C (Nat.le_of_ble_eq_true rfl) rfl dX11_passages_12 ?_
      refine cg_iload_n C (i := 3) rfl 5 rfl dX11_passages_14 ?_
      rcases h with h | ⟨mc7, ms8, hm_, h⟩
      · obtain ⟨hb_15, h⟩ := h
        refine cg_callsv C (t_X11_checkKey l x3 S_6 dp h) cc_X11_174 rfl ⟨by decide, by decide⟩ hb_15 rfl (Nat.le_of_ble_eq_true rfl) dX11_passages_15 (fun S_9 h => ?_)
        simp only [Nat.add_zero]
        refine cg_iload C 6 rfl dX11_passages_18 ?_
        rcases h with h | ⟨mc10, ms11, hm_, h⟩
        · obtain ⟨hb_20, h⟩ := h
          refine cg_callsv C (t_X11_checkField l x4 S_9 dp h) cc_X11_152 rfl ⟨by decide, by decide⟩ hb_20 rfl (Nat.le_of_ble_eq_true rfl) dX11_passages_20 (fun S_12 h => ?_)
          simp only [Nat.add_zero]
          refine cg_aload_n C (i := 0) rfl 2 rfl dX11_passages_23 ?_
          obtain ⟨hc_24, h⟩ := h
          obtain ⟨b13, hb_b13, h⟩ := h
          refine cg_get C (k := 11) (j := 13) (.ref b13) hc_24.1 hc_24.2 (by decide) rfl (by decide) rfl (show cV _ 11 13 x0 = _ from congrArg va_rf hb_b13) cWs_wsX110 cl_X11_80 rfl dX11_passages_24 ?_
          refine cg_aload C 1 rfl dX11_passages_27 ?_
          refine cg_iload_n C (i := 3) rfl 5 rfl dX11_passages_29 ?_
          obtain ⟨hc_30, h⟩ := h
          obtain ⟨hb_30, h⟩ := h
          refine cg_callq C (t_X10_liveDocument l r_3 x3 S_12 dp h) cc_X11_421 hc_30.1 hc_30.2 (by decide) rfl rfl ⟨by decide, by decide⟩ hb_30 rfl (Nat.le_of_ble_eq_true rfl) dX11_passages_30 (fun r_14 S_14 h => ?_)
          simp only [Nat.add_zero]
          obtain ho | ⟨b15, ho⟩ := c_opt r_14
          · replace h := h.1 ho
            subst ho
            refine cg_cast (.null) rfl ?_
            refine cg_aload C 0 rfl dX11_passages_33 ?_
            refine cg_iload C 6 rfl dX11_passages_35 ?_
            obtain ⟨hc_37, h⟩ := h
            obtain ⟨hb_37, h⟩ := h
            refine cg_calli C (t_X1_readPassages l b13 none r_6 x4 S_14 dp h) cc_X11_453 hc_37.1 hc_37.2 (by decide) rfl rfl ⟨by decide, by decide⟩ hb_37 rfl (Nat.le_of_ble_eq_true rfl) dX11_passages_37 (fun r_16 S_16 h => ?_)
            simp only [Nat.add_zero]
            exact h.elim
          · replace h := h.2 b15 ho
            subst ho
            refine cg_cast (.ref b15) rfl ?_
            refine cg_aload C 0 rfl dX11_passages_33 ?_
            refine cg_iload C 6 rfl dX11_passages_35 ?_
            obtain ⟨hc_37, h⟩ := h
            obtain ⟨hb_37, h⟩ := h
            refine cg_calli C (t_X1_readPassages l b13 (some b15) r_6 x4 S_14 dp h) cc_X11_453 hc_37.1 hc_37.2 (by decide) rfl rfl ⟨by decide, by decide⟩ hb_37 rfl (Nat.le_of_ble_eq_true rfl) dX11_passages_37 (fun r_17 S_17 h => ?_)
            simp only [Nat.add_zero]
            exact h.elim
        · exact cg_callsx C hne (tx_X11_checkField l hlt E mc10 ms11 x4 S_9 dp h) cc_X11_152 rfl ⟨by decide, by decide⟩ hm_ rfl (Nat.le_of_ble_eq_true rfl) dX11_passages_20 hm_ (fun _ z => z)
      · exact cg_callsx C hne (tx_X11_checkKey l hlt E mc7 ms8 x3 S_6 dp h) cc_X11_174 rfl ⟨by decide, by decide⟩ hm_ rfl (Nat.le_of_ble_eq_true rfl) dX11_passages_15 hm_ (fun _ z => z)
    · exact cg_callx C hne (tx_X11_queryOf l hlt E mc4 ms5 x0 x2 S_3 dp h) cc_X11_396 hc_9.1 hc_9.2 (by decide) rfl rfl ⟨by decide, by decide⟩ hm_ rfl (Nat.le_of_ble_eq_true rfl) dX11_passages_9 hm_ (fun _ z => z)
  · exact cg_callx C hne (tx_X11_snapshotOf l hlt E mc1 ms2 x0 x1 S dp h) cc_X11_317 hc_2.1 hc_2.2 (by decide) rfl rfl ⟨by decide, by decide⟩ hm_ rfl (Nat.le_of_ble_eq_true rfl) dX11_passages_2 hm_ (fun _ z => z)
def kw_L_added (Q : Int32 → cS → Prop) (dp : Nat) (mc ms : Nat) (x0 : Nat) (x1 : Int32) (S : cS) : Prop :=
cA S x0 11 ∧ ((((∃ mc5 ms6 : Nat, 0 + mc5 ≤ mc ∧ 0 + ms6 ≤ ms ∧ (k_X11_add (fun r_7 S_7 => 
(0 + mc5 ≤ mc ∧ 0 + ms6 ≤ ms) ∧ (Q r_7 S_7)) dp mc5 ms6 x0 x1 S))) ∨
 (∃ mc1 ms2 : Nat, (0 + mc1 ≤ mc ∧ 0 + ms2 ≤ ms) ∧ kx_X11_add "java/lang/IllegalStateException" (fun S3 =>
(0 + mc1 ≤ mc ∧ 0 + ms2 ≤ ms) ∧ (Q (((-7))) S3)) dp mc1 ms2 x0 x1 S)))
set_option maxHeartbeats 1000000 in
set_option maxRecDepth 20000 in
theorem tw_L_added (l : Launch) (hlt : l.stackTraces = false) (mc ms : Nat) (x0 : Nat) (x1 : Int32) (S : cS) (dp : Nat) {P : Int32 → cS → Prop} (h : kw_L_added P dp mc ms x0 x1 S) : cMetW (cQi P) l yL_added cL_added 3 (some .int) [(0, 5, 6, 73)] 9 mc ms 209 [.ref x0, .int x1] S dp := by
  intro D Y tp sz
  refine cg_bodyW (by decide +kernel) (Nat.le_of_ble_eq_true rfl) ?_
  intro p e s m args below meth c C htab
  generalize va_A (cWd Y S) sz = A at C ⊢
  have C : cC p s m args meth c cL_added 3 (some .int) A D Y tp dp RL := C
  refine cg_lv (lv' := [(0, .ref x0), (1, .int x1)]) rfl ?_
  unfold kw_L_added at h
  refine cg_aload_n C (i := 0) rfl 0 rfl dL_added_0 ?_
  refine cg_iload_n C (i := 1) rfl 1 rfl dL_added_1 ?_
  obtain ⟨hc_2, h⟩ := h
  rcases h with h | ⟨mc1, ms2, hm_, h⟩
  · obtain ⟨mc5, ms6, hm_1, hm_2, h⟩ := h
    refine cg_calli C (t_X11_add l mc5 ms6 x0 x1 S dp h) cc_L_68 hc_2.1 hc_2.2 (by decide) rfl rfl ⟨by decide, by decide⟩ ⟨hm_1, hm_2⟩ rfl (Nat.le_of_ble_eq_true rfl) dL_added_2 (fun r_7 S_7 h => ?_)
    obtain ⟨hb_5, h⟩ := h
    exact cg_iret C h dL_added_5 hb_5.1 hb_5.2
  · refine cg_callx_catch C htab (tx_X11_add l hlt "java/lang/IllegalStateException" mc1 ms2 x0 x1 S dp h) cc_L_68 hc_2.1 hc_2.2 (by decide) rfl rfl ⟨by decide, by decide⟩ hm_ rfl (Nat.le_of_ble_eq_true rfl) dL_added_2 (tableOf []) ⟨0, 5, 6, 73⟩ (tableOf []) rfl (fun z hz => nomatch hz) (by decide) (by decide) (name := "java/lang/IllegalStateException") ce_L_73 (by decide) 6 rfl (fun e4 S3 h => ?_)
    refine cg_astore_n (lv' := [(2, .ref e4), (0, .ref x0), (1, .int x1)]) C (i := 2) rfl (Nat.le_of_ble_eq_true rfl) rfl dL_added_6 ?_
    refine cg_bipush C (x := (-7)) rfl dL_added_7 ?_
    obtain ⟨hb_9, h⟩ := h
    exact cg_iret C h dL_added_9 hb_9.1 hb_9.2
def kw_L_deleted (Q : Int32 → cS → Prop) (dp : Nat) (mc ms : Nat) (x0 : Nat) (x1 : Int32) (S : cS) : Prop :=
cA S x0 11 ∧ ((((0 ≤ mc ∧ 0 ≤ ms) ∧ (k_X11_delete (fun r_5 S_5 => 
((r_5 = 0 →
  (0 ≤ mc ∧ 0 ≤ ms) ∧ (Q ((nI 0)) S_5)) ∧
 (¬ r_5 = 0 →
  (0 ≤ mc ∧ 0 ≤ ms) ∧ (Q ((nI 1)) S_5)))) dp x0 x1 S)) ∨
 (∃ mc1 ms2 : Nat, (0 + mc1 ≤ mc ∧ 0 + ms2 ≤ ms) ∧ kx_X11_delete "java/lang/IllegalStateException" (fun S3 =>
(0 + mc1 ≤ mc ∧ 0 + ms2 ≤ ms) ∧ (Q (((-7))) S3)) dp mc1 ms2 x0 x1 S)))
set_option maxHeartbeats 1000000 in
set_option maxRecDepth 20000 in
theorem tw_L_deleted (l : Launch) (hlt : l.stackTraces = false) (mc ms : Nat) (x0 : Nat) (x1 : Int32) (S : cS) (dp : Nat) {P : Int32 → cS → Prop} (h : kw_L_deleted P dp mc ms x0 x1 S) : cMetW (cQi P) l yL_deleted cL_deleted 3 (some .int) [(0, 13, 14, 73)] 8 mc ms 173 [.ref x0, .int x1] S dp := by
  intro D Y tp sz
  refine cg_bodyW (by decide +kernel) (Nat.le_of_ble_eq_true rfl) ?_
  intro p e s m args below meth c C htab
  generalize va_A (cWd Y S) sz = A at C ⊢
  have C : cC p s m args meth c cL_deleted 3 (some .int) A D Y tp dp RL := C
  refine cg_lv (lv' := [(0, .ref x0), (1, .int x1)]) rfl ?_
  unfold kw_L_deleted at h
  refine cg_aload_n C (i := 0) rfl 0 rfl dL_deleted_0 ?_
  refine cg_iload_n C (i := 1) rfl 1 rfl dL_deleted_1 ?_
  obtain ⟨hc_2, h⟩ := h
  rcases h with h | ⟨mc1, ms2, hm_, h⟩
  · obtain ⟨hb_2, h⟩ := h
    refine cg_calli C (t_X11_delete l x0 x1 S dp h) cc_L_75 hc_2.1 hc_2.2 (by decide) rfl rfl ⟨by decide, by decide⟩ hb_2 rfl (Nat.le_of_ble_eq_true rfl) dL_deleted_2 (fun r_5 S_5 h => ?_)
    simp only [Nat.add_zero]
    refine cg_if_eq C 12 (by decide) dL_deleted_5 (fun c_ => ?_) (fun c_ => ?_)
    · have h := h.1 c_
      refine cg_iconst C (x := nI 0) rfl dL_deleted_12 ?_
      obtain ⟨hb_13, h⟩ := h
      exact cg_iret C h dL_deleted_13 hb_13.1 hb_13.2
    · have h := h.2 c_
      refine cg_iconst C (x := nI 1) rfl dL_deleted_8 ?_
      refine cg_goto C 13 (by decide) dL_deleted_9 ?_
      obtain ⟨hb_13, h⟩ := h
      exact cg_iret C h dL_deleted_13 hb_13.1 hb_13.2
  · refine cg_callx_catch C htab (tx_X11_delete l hlt "java/lang/IllegalStateException" mc1 ms2 x0 x1 S dp h) cc_L_75 hc_2.1 hc_2.2 (by decide) rfl rfl ⟨by decide, by decide⟩ hm_ rfl (Nat.le_of_ble_eq_true rfl) dL_deleted_2 (tableOf []) ⟨0, 13, 14, 73⟩ (tableOf []) rfl (fun z hz => nomatch hz) (by decide) (by decide) (name := "java/lang/IllegalStateException") ce_L_73 (by decide) 14 rfl (fun e4 S3 h => ?_)
    refine cg_astore_n (lv' := [(2, .ref e4), (0, .ref x0), (1, .int x1)]) C (i := 2) rfl (Nat.le_of_ble_eq_true rfl) rfl dL_deleted_14 ?_
    refine cg_bipush C (x := (-7)) rfl dL_deleted_15 ?_
    obtain ⟨hb_17, h⟩ := h
    exact cg_iret C h dL_deleted_17 hb_17.1 hb_17.2
def kw_L_did (Q : Int32 → cS → Prop) (dp : Nat) (mc ms : Nat) (x0 : Nat) (x1 : Int32) (S : cS) : Prop :=
((¬ x1 = 0 →
  ((¬ x1 = ((nI 1)) →
    ((¬ x1 = ((nI 2)) →
      ((¬ x1 = ((nI 3)) →
        ((¬ x1 = ((nI 4)) →
          ((¬ x1 = ((nI 5)) →
            ((¬ x1 = ((nI 6)) →
              ((¬ x1 = ((nI 7)) →
                ((¬ x1 = ((nI 8)) →
                  cA S x0 11 ∧ ((((0 ≤ mc ∧ 0 ≤ ms) ∧ (k_X11_segments (fun r_5 S_5 => 
                  (0 ≤ mc ∧ 0 ≤ ms) ∧ (Q r_5 S_5)) dp x0 S)) ∨
                   (∃ mc1 ms2 : Nat, (0 + mc1 ≤ mc ∧ 0 + ms2 ≤ ms) ∧ kx_X11_segments "java/lang/IllegalStateException" (fun S3 =>
                  (0 + mc1 ≤ mc ∧ 0 + ms2 ≤ ms) ∧ (Q (((-7))) S3)) dp mc1 ms2 x0 S)))) ∧
                 (x1 = ((nI 8)) →
                  cA S x0 11 ∧ ((((0 ≤ mc ∧ 0 ≤ ms) ∧ (k_X11_due (fun r_10 S_10 => 
                  (0 ≤ mc ∧ 0 ≤ ms) ∧ (Q r_10 S_10)) dp x0 S)) ∨
                   (∃ mc6 ms7 : Nat, (0 + mc6 ≤ mc ∧ 0 + ms7 ≤ ms) ∧ kx_X11_due "java/lang/IllegalStateException" (fun S8 =>
                  (0 + mc6 ≤ mc ∧ 0 + ms7 ≤ ms) ∧ (Q (((-7))) S8)) dp mc6 ms7 x0 S)))))) ∧
               (x1 = ((nI 7)) →
                cA S x0 11 ∧ ((((∃ mc15 ms16 : Nat, 0 + mc15 ≤ mc ∧ 0 + ms16 ≤ ms ∧ (k_X11_files (fun r_17 S_17 => 
                (0 + mc15 ≤ mc ∧ 0 + ms16 ≤ ms) ∧ (Q r_17 S_17)) dp mc15 ms16 x0 S))) ∨
                 (∃ mc11 ms12 : Nat, (0 + mc11 ≤ mc ∧ 0 + ms12 ≤ ms) ∧ kx_X11_files "java/lang/IllegalStateException" (fun S13 =>
                (0 + mc11 ≤ mc ∧ 0 + ms12 ≤ ms) ∧ (Q (((-7))) S13)) dp mc11 ms12 x0 S)))))) ∧
             (x1 = ((nI 6)) →
              cA S x0 11 ∧ ((((∃ mc22 ms23 : Nat, 0 + mc22 ≤ mc ∧ 0 + ms23 ≤ ms ∧ (k_X11_open (fun r_24 S_24 => 
              (0 + mc22 ≤ mc ∧ 0 + ms23 ≤ ms) ∧ (Q r_24 S_24)) dp mc22 ms23 x0 S))) ∨
               (∃ mc18 ms19 : Nat, (0 + mc18 ≤ mc ∧ 0 + ms19 ≤ ms) ∧ kx_X11_open "java/lang/IllegalStateException" (fun S20 =>
              (0 + mc18 ≤ mc ∧ 0 + ms19 ≤ ms) ∧ (Q (((-7))) S20)) dp mc18 ms19 x0 S)))))) ∧
           (x1 = ((nI 5)) →
            cA S x0 11 ∧ ((((∃ mc29 ms30 : Nat, 0 + mc29 ≤ mc ∧ 0 + ms30 ≤ ms ∧ (k_X11_finish (fun r_31 S_31 => 
            (0 + mc29 ≤ mc ∧ 0 + ms30 ≤ ms) ∧ (Q r_31 S_31)) dp mc29 ms30 x0 S))) ∨
             (∃ mc25 ms26 : Nat, (0 + mc25 ≤ mc ∧ 0 + ms26 ≤ ms) ∧ kx_X11_finish "java/lang/IllegalStateException" (fun S27 =>
            (0 + mc25 ≤ mc ∧ 0 + ms26 ≤ ms) ∧ (Q (((-7))) S27)) dp mc25 ms26 x0 S)))))) ∧
         (x1 = ((nI 4)) →
          cA S x0 11 ∧ ((((∃ mc36 ms37 : Nat, 0 + mc36 ≤ mc ∧ 0 + ms37 ≤ ms ∧ (k_X11_prepare (fun r_38 S_38 => 
          (0 + mc36 ≤ mc ∧ 0 + ms37 ≤ ms) ∧ (Q r_38 S_38)) dp mc36 ms37 x0 S))) ∨
           (∃ mc32 ms33 : Nat, (0 + mc32 ≤ mc ∧ 0 + ms33 ≤ ms) ∧ kx_X11_prepare "java/lang/IllegalStateException" (fun S34 =>
          (0 + mc32 ≤ mc ∧ 0 + ms33 ≤ ms) ∧ (Q (((-7))) S34)) dp mc32 ms33 x0 S)))))) ∧
       (x1 = ((nI 3)) →
        cA S x0 11 ∧ ((((0 ≤ mc ∧ 0 ≤ ms) ∧ (k_X11_giveUp (fun r_43 S_43 => 
        (0 ≤ mc ∧ 0 ≤ ms) ∧ (Q r_43 S_43)) dp x0 S)) ∨
         (∃ mc39 ms40 : Nat, (0 + mc39 ≤ mc ∧ 0 + ms40 ≤ ms) ∧ kx_X11_giveUp "java/lang/IllegalStateException" (fun S41 =>
        (0 + mc39 ≤ mc ∧ 0 + ms40 ≤ ms) ∧ (Q (((-7))) S41)) dp mc39 ms40 x0 S)))))) ∧
     (x1 = ((nI 2)) →
      cA S x0 11 ∧ ((((∃ mc48 ms49 : Nat, 0 + mc48 ≤ mc ∧ 0 + ms49 ≤ ms ∧ (k_X11_step (fun r_50 S_50 => 
      (0 + mc48 ≤ mc ∧ 0 + ms49 ≤ ms) ∧ (Q r_50 S_50)) dp mc48 ms49 x0 S))) ∨
       (∃ mc44 ms45 : Nat, (0 + mc44 ≤ mc ∧ 0 + ms45 ≤ ms) ∧ kx_X11_step "java/lang/IllegalStateException" (fun S46 =>
      (0 + mc44 ≤ mc ∧ 0 + ms45 ≤ ms) ∧ (Q (((-7))) S46)) dp mc44 ms45 x0 S)))))) ∧
   (x1 = ((nI 1)) →
    cA S x0 11 ∧ ((((∃ mc55 ms56 : Nat, 0 + mc55 ≤ mc ∧ 0 + ms56 ≤ ms ∧ (k_X11_merge (fun r_57 S_57 => 
    (0 + mc55 ≤ mc ∧ 0 + ms56 ≤ ms) ∧ (Q r_57 S_57)) dp mc55 ms56 x0 S))) ∨
     (∃ mc51 ms52 : Nat, (0 + mc51 ≤ mc ∧ 0 + ms52 ≤ ms) ∧ kx_X11_merge "java/lang/IllegalStateException" (fun S53 =>
    (0 + mc51 ≤ mc ∧ 0 + ms52 ≤ ms) ∧ (Q (((-7))) S53)) dp mc51 ms52 x0 S)))))) ∧
 (x1 = 0 →
  cA S x0 11 ∧ ((((∃ mc62 ms63 : Nat, 0 + mc62 ≤ mc ∧ 0 + ms63 ≤ ms ∧ (k_X11_flush (fun r_64 S_64 => 
  (0 + mc62 ≤ mc ∧ 0 + ms63 ≤ ms) ∧ (Q r_64 S_64)) dp mc62 ms63 x0 S))) ∨
   (∃ mc58 ms59 : Nat, (0 + mc58 ≤ mc ∧ 0 + ms59 ≤ ms) ∧ kx_X11_flush "java/lang/IllegalStateException" (fun S60 =>
  (0 + mc58 ≤ mc ∧ 0 + ms59 ≤ ms) ∧ (Q (((-7))) S60)) dp mc58 ms59 x0 S)))))
set_option maxHeartbeats 1000000 in
set_option maxRecDepth 20000 in
theorem tw_L_did (l : Launch) (hlt : l.stackTraces = false) (mc ms : Nat) (x0 : Nat) (x1 : Int32) (S : cS) (dp : Nat) {P : Int32 → cS → Prop} (h : kw_L_did P dp mc ms x0 x1 S) : cMetW (cQi P) l yL_did cL_did 3 (some .int) [(0, 114, 115, 73)] 12 mc ms 288 [.ref x0, .int x1] S dp := by
  intro D Y tp sz
  refine cg_bodyW (by decide +kernel) (Nat.le_of_ble_eq_true rfl) ?_
  intro p e s m args below meth c C htab
  generalize va_A (cWd Y S) sz = A at C ⊢
  have C : cC p s m args meth c cL_did 3 (some .int) A D Y tp dp RL := C
  refine cg_lv (lv' := [(0, .ref x0), (1, .int x1)]) rfl ?_
  unfold kw_L_did at h
  refine cg_iload_n C (i := 1) rfl 1 rfl dL_did_0 ?_
  refine cg_if_ne C 11 (by decide) dL_did_1 (fun c_ => ?_) (fun c_ => ?_)
  · have h := h.1 c_
    refine cg_iload_n C (i := 1) rfl 1 rfl dL_did_11 ?_
    refine cg_iconst C (x := nI 1) rfl dL_did_12 ?_
    refine cg_icmp_ne C 23 (by decide) dL_did_13 (fun c_ => ?_) (fun c_ => ?_)
    · have h := h.1 c_
      refine cg_iload_n C (i := 1) rfl 1 rfl dL_did_23 ?_
      refine cg_iconst C (x := nI 2) rfl dL_did_24 ?_
      refine cg_icmp_ne C 35 (by decide) dL_did_25 (fun c_ => ?_) (fun c_ => ?_)
      · have h := h.1 c_
        refine cg_iload_n C (i := 1) rfl 1 rfl dL_did_35 ?_
        refine cg_iconst C (x := nI 3) rfl dL_did_36 ?_
        refine cg_icmp_ne C 47 (by decide) dL_did_37 (fun c_ => ?_) (fun c_ => ?_)
        · have h := h.1 c_
          refine cg_iload_n C (i := 1) rfl 1 rfl dL_did_47 ?_
          refine cg_iconst C (x := nI 4) rfl dL_did_48 ?_
          refine cg_icmp_ne C 59 (by decide) dL_did_49 (fun c_ => ?_) (fun c_ => ?_)
          · have h := h.1 c_
            refine cg_iload_n C (i := 1) rfl 1 rfl dL_did_59 ?_
            refine cg_iconst C (x := nI 5) rfl dL_did_60 ?_
            refine cg_icmp_ne C 71 (by decide) dL_did_61 (fun c_ => ?_) (fun c_ => ?_)
            · have h := h.1 c_
              refine cg_iload_n C (i := 1) rfl 1 rfl dL_did_71 ?_
              refine cg_bipush C (x := nI 6) rfl dL_did_72 ?_
              refine cg_icmp_ne C 84 (by decide) dL_did_74 (fun c_ => ?_) (fun c_ => ?_)
              · have h := h.1 c_
                refine cg_iload_n C (i := 1) rfl 1 rfl dL_did_84 ?_
                refine cg_bipush C (x := nI 7) rfl dL_did_85 ?_
                refine cg_icmp_ne C 97 (by decide) dL_did_87 (fun c_ => ?_) (fun c_ => ?_)
                · have h := h.1 c_
                  refine cg_iload_n C (i := 1) rfl 1 rfl dL_did_97 ?_
                  refine cg_bipush C (x := nI 8) rfl dL_did_98 ?_
                  refine cg_icmp_ne C 110 (by decide) dL_did_100 (fun c_ => ?_) (fun c_ => ?_)
                  · have h := h.1 c_
                    refine cg_aload_n C (i := 0) rfl 0 rfl dL_did_110 ?_
                    obtain ⟨hc_111, h⟩ := h
                    rcases h with h | ⟨mc1, ms2, hm_, h⟩
                    · obtain ⟨hb_111, h⟩ := h
                      refine cg_calli C (t_X11_segments l x0 S dp h) cc_L_107 hc_111.1 hc_111.2 (by decide) rfl rfl ⟨by decide, by decide⟩ hb_111 rfl (Nat.le_of_ble_eq_true rfl) dL_did_111 (fun r_5 S_5 h => ?_)
                      simp only [Nat.add_zero]
                      obtain ⟨hb_114, h⟩ := h
                      exact cg_iret C h dL_did_114 hb_114.1 hb_114.2
                    · refine cg_callx_catch C htab (tx_X11_segments l hlt "java/lang/IllegalStateException" mc1 ms2 x0 S dp h) cc_L_107 hc_111.1 hc_111.2 (by decide) rfl rfl ⟨by decide, by decide⟩ hm_ rfl (Nat.le_of_ble_eq_true rfl) dL_did_111 (tableOf []) ⟨0, 114, 115, 73⟩ (tableOf []) rfl (fun z hz => nomatch hz) (by decide) (by decide) (name := "java/lang/IllegalStateException") ce_L_73 (by decide) 115 rfl (fun e4 S3 h => ?_)
                      refine cg_astore_n (lv' := [(2, .ref e4), (0, .ref x0), (1, .int x1)]) C (i := 2) rfl (Nat.le_of_ble_eq_true rfl) rfl dL_did_115 ?_
                      refine cg_bipush C (x := (-7)) rfl dL_did_116 ?_
                      obtain ⟨hb_118, h⟩ := h
                      exact cg_iret C h dL_did_118 hb_118.1 hb_118.2
                  · have h := h.2 c_
                    refine cg_aload_n C (i := 0) rfl 0 rfl dL_did_103 ?_
                    obtain ⟨hc_104, h⟩ := h
                    rcases h with h | ⟨mc6, ms7, hm_, h⟩
                    · obtain ⟨hb_104, h⟩ := h
                      refine cg_calli C (t_X11_due l x0 S dp h) cc_L_104 hc_104.1 hc_104.2 (by decide) rfl rfl ⟨by decide, by decide⟩ hb_104 rfl (Nat.le_of_ble_eq_true rfl) dL_did_104 (fun r_10 S_10 h => ?_)
                      simp only [Nat.add_zero]
                      refine cg_goto C 114 (by decide) dL_did_107 ?_
                      obtain ⟨hb_114, h⟩ := h
                      exact cg_iret C h dL_did_114 hb_114.1 hb_114.2
                    · refine cg_callx_catch C htab (tx_X11_due l hlt "java/lang/IllegalStateException" mc6 ms7 x0 S dp h) cc_L_104 hc_104.1 hc_104.2 (by decide) rfl rfl ⟨by decide, by decide⟩ hm_ rfl (Nat.le_of_ble_eq_true rfl) dL_did_104 (tableOf []) ⟨0, 114, 115, 73⟩ (tableOf []) rfl (fun z hz => nomatch hz) (by decide) (by decide) (name := "java/lang/IllegalStateException") ce_L_73 (by decide) 115 rfl (fun e9 S8 h => ?_)
                      refine cg_astore_n (lv' := [(2, .ref e9), (0, .ref x0), (1, .int x1)]) C (i := 2) rfl (Nat.le_of_ble_eq_true rfl) rfl dL_did_115 ?_
                      refine cg_bipush C (x := (-7)) rfl dL_did_116 ?_
                      obtain ⟨hb_118, h⟩ := h
                      exact cg_iret C h dL_did_118 hb_118.1 hb_118.2
                · have h := h.2 c_
                  refine cg_aload_n C (i := 0) rfl 0 rfl dL_did_90 ?_
                  obtain ⟨hc_91, h⟩ := h
                  rcases h with h | ⟨mc11, ms12, hm_, h⟩
                  · obtain ⟨mc15, ms16, hm_1, hm_2, h⟩ := h
                    refine cg_calli C (t_X11_files l mc15 ms16 x0 S dp h) cc_L_101 hc_91.1 hc_91.2 (by decide) rfl rfl ⟨by decide, by decide⟩ ⟨hm_1, hm_2⟩ rfl (Nat.le_of_ble_eq_true rfl) dL_did_91 (fun r_17 S_17 h => ?_)
                    refine cg_goto C 114 (by decide) dL_did_94 ?_
                    obtain ⟨hb_114, h⟩ := h
                    exact cg_iret C h dL_did_114 hb_114.1 hb_114.2
                  · refine cg_callx_catch C htab (tx_X11_files l hlt "java/lang/IllegalStateException" mc11 ms12 x0 S dp h) cc_L_101 hc_91.1 hc_91.2 (by decide) rfl rfl ⟨by decide, by decide⟩ hm_ rfl (Nat.le_of_ble_eq_true rfl) dL_did_91 (tableOf []) ⟨0, 114, 115, 73⟩ (tableOf []) rfl (fun z hz => nomatch hz) (by decide) (by decide) (name := "java/lang/IllegalStateException") ce_L_73 (by decide) 115 rfl (fun e14 S13 h => ?_)
                    refine cg_astore_n (lv' := [(2, .ref e14), (0, .ref x0), (1, .int x1)]) C (i := 2) rfl (Nat.le_of_ble_eq_true rfl) rfl dL_did_115 ?_
                    refine cg_bipush C (x := (-7)) rfl dL_did_116 ?_
                    obtain ⟨hb_118, h⟩ := h
                    exact cg_iret C h dL_did_118 hb_118.1 hb_118.2
              · have h := h.2 c_
                refine cg_aload_n C (i := 0) rfl 0 rfl dL_did_77 ?_
                obtain ⟨hc_78, h⟩ := h
                rcases h with h | ⟨mc18, ms19, hm_, h⟩
                · obtain ⟨mc22, ms23, hm_1, hm_2, h⟩ := h
                  refine cg_calli C (t_X11_open l mc22 ms23 x0 S dp h) cc_L_98 hc_78.1 hc_78.2 (by decide) rfl rfl ⟨by decide, by decide⟩ ⟨hm_1, hm_2⟩ rfl (Nat.le_of_ble_eq_true rfl) dL_did_78 (fun r_24 S_24 h => ?_)
                  refine cg_goto C 114 (by decide) dL_did_81 ?_
                  obtain ⟨hb_114, h⟩ := h
                  exact cg_iret C h dL_did_114 hb_114.1 hb_114.2
                · refine cg_callx_catch C htab (tx_X11_open l hlt "java/lang/IllegalStateException" mc18 ms19 x0 S dp h) cc_L_98 hc_78.1 hc_78.2 (by decide) rfl rfl ⟨by decide, by decide⟩ hm_ rfl (Nat.le_of_ble_eq_true rfl) dL_did_78 (tableOf []) ⟨0, 114, 115, 73⟩ (tableOf []) rfl (fun z hz => nomatch hz) (by decide) (by decide) (name := "java/lang/IllegalStateException") ce_L_73 (by decide) 115 rfl (fun e21 S20 h => ?_)
                  refine cg_astore_n (lv' := [(2, .ref e21), (0, .ref x0), (1, .int x1)]) C (i := 2) rfl (Nat.le_of_ble_eq_true rfl) rfl dL_did_115 ?_
                  refine cg_bipush C (x := (-7)) rfl dL_did_116 ?_
                  obtain ⟨hb_118, h⟩ := h
                  exact cg_iret C h dL_did_118 hb_118.1 hb_118.2
            · have h := h.2 c_
              refine cg_aload_n C (i := 0) rfl 0 rfl dL_did_64 ?_
              obtain ⟨hc_65, h⟩ := h
              rcases h with h | ⟨mc25, ms26, hm_, h⟩
              · obtain ⟨mc29, ms30, hm_1, hm_2, h⟩ := h
                refine cg_calli C (t_X11_finish l mc29 ms30 x0 S dp h) cc_L_95 hc_65.1 hc_65.2 (by decide) rfl rfl ⟨by decide, by decide⟩ ⟨hm_1, hm_2⟩ rfl (Nat.le_of_ble_eq_true rfl) dL_did_65 (fun r_31 S_31 h => ?_)
                refine cg_goto C 114 (by decide) dL_did_68 ?_
                obtain ⟨hb_114, h⟩ := h
                exact cg_iret C h dL_did_114 hb_114.1 hb_114.2
              · refine cg_callx_catch C htab (tx_X11_finish l hlt "java/lang/IllegalStateException" mc25 ms26 x0 S dp h) cc_L_95 hc_65.1 hc_65.2 (by decide) rfl rfl ⟨by decide, by decide⟩ hm_ rfl (Nat.le_of_ble_eq_true rfl) dL_did_65 (tableOf []) ⟨0, 114, 115, 73⟩ (tableOf []) rfl (fun z hz => nomatch hz) (by decide) (by decide) (name := "java/lang/IllegalStateException") ce_L_73 (by decide) 115 rfl (fun e28 S27 h => ?_)
                refine cg_astore_n (lv' := [(2, .ref e28), (0, .ref x0), (1, .int x1)]) C (i := 2) rfl (Nat.le_of_ble_eq_true rfl) rfl dL_did_115 ?_
                refine cg_bipush C (x := (-7)) rfl dL_did_116 ?_
                obtain ⟨hb_118, h⟩ := h
                exact cg_iret C h dL_did_118 hb_118.1 hb_118.2
          · have h := h.2 c_
            refine cg_aload_n C (i := 0) rfl 0 rfl dL_did_52 ?_
            obtain ⟨hc_53, h⟩ := h
            rcases h with h | ⟨mc32, ms33, hm_, h⟩
            · obtain ⟨mc36, ms37, hm_1, hm_2, h⟩ := h
              refine cg_calli C (t_X11_prepare l mc36 ms37 x0 S dp h) cc_L_92 hc_53.1 hc_53.2 (by decide) rfl rfl ⟨by decide, by decide⟩ ⟨hm_1, hm_2⟩ rfl (Nat.le_of_ble_eq_true rfl) dL_did_53 (fun r_38 S_38 h => ?_)
              refine cg_goto C 114 (by decide) dL_did_56 ?_
              obtain ⟨hb_114, h⟩ := h
              exact cg_iret C h dL_did_114 hb_114.1 hb_114.2
            · refine cg_callx_catch C htab (tx_X11_prepare l hlt "java/lang/IllegalStateException" mc32 ms33 x0 S dp h) cc_L_92 hc_53.1 hc_53.2 (by decide) rfl rfl ⟨by decide, by decide⟩ hm_ rfl (Nat.le_of_ble_eq_true rfl) dL_did_53 (tableOf []) ⟨0, 114, 115, 73⟩ (tableOf []) rfl (fun z hz => nomatch hz) (by decide) (by decide) (name := "java/lang/IllegalStateException") ce_L_73 (by decide) 115 rfl (fun e35 S34 h => ?_)
              refine cg_astore_n (lv' := [(2, .ref e35), (0, .ref x0), (1, .int x1)]) C (i := 2) rfl (Nat.le_of_ble_eq_true rfl) rfl dL_did_115 ?_
              refine cg_bipush C (x := (-7)) rfl dL_did_116 ?_
              obtain ⟨hb_118, h⟩ := h
              exact cg_iret C h dL_did_118 hb_118.1 hb_118.2
        · have h := h.2 c_
          refine cg_aload_n C (i := 0) rfl 0 rfl dL_did_40 ?_
          obtain ⟨hc_41, h⟩ := h
          rcases h with h | ⟨mc39, ms40, hm_, h⟩
          · obtain ⟨hb_41, h⟩ := h
            refine cg_calli C (t_X11_giveUp l x0 S dp h) cc_L_89 hc_41.1 hc_41.2 (by decide) rfl rfl ⟨by decide, by decide⟩ hb_41 rfl (Nat.le_of_ble_eq_true rfl) dL_did_41 (fun r_43 S_43 h => ?_)
            simp only [Nat.add_zero]
            refine cg_goto C 114 (by decide) dL_did_44 ?_
            obtain ⟨hb_114, h⟩ := h
            exact cg_iret C h dL_did_114 hb_114.1 hb_114.2
          · refine cg_callx_catch C htab (tx_X11_giveUp l hlt "java/lang/IllegalStateException" mc39 ms40 x0 S dp h) cc_L_89 hc_41.1 hc_41.2 (by decide) rfl rfl ⟨by decide, by decide⟩ hm_ rfl (Nat.le_of_ble_eq_true rfl) dL_did_41 (tableOf []) ⟨0, 114, 115, 73⟩ (tableOf []) rfl (fun z hz => nomatch hz) (by decide) (by decide) (name := "java/lang/IllegalStateException") ce_L_73 (by decide) 115 rfl (fun e42 S41 h => ?_)
            refine cg_astore_n (lv' := [(2, .ref e42), (0, .ref x0), (1, .int x1)]) C (i := 2) rfl (Nat.le_of_ble_eq_true rfl) rfl dL_did_115 ?_
            refine cg_bipush C (x := (-7)) rfl dL_did_116 ?_
            obtain ⟨hb_118, h⟩ := h
            exact cg_iret C h dL_did_118 hb_118.1 hb_118.2
      · have h := h.2 c_
        refine cg_aload_n C (i := 0) rfl 0 rfl dL_did_28 ?_
        obtain ⟨hc_29, h⟩ := h
        rcases h with h | ⟨mc44, ms45, hm_, h⟩
        · obtain ⟨mc48, ms49, hm_1, hm_2, h⟩ := h
          refine cg_calli C (t_X11_step l mc48 ms49 x0 S dp h) cc_L_86 hc_29.1 hc_29.2 (by decide) rfl rfl ⟨by decide, by decide⟩ ⟨hm_1, hm_2⟩ rfl (Nat.le_of_ble_eq_true rfl) dL_did_29 (fun r_50 S_50 h => ?_)
          refine cg_goto C 114 (by decide) dL_did_32 ?_
          obtain ⟨hb_114, h⟩ := h
          exact cg_iret C h dL_did_114 hb_114.1 hb_114.2
        · refine cg_callx_catch C htab (tx_X11_step l hlt "java/lang/IllegalStateException" mc44 ms45 x0 S dp h) cc_L_86 hc_29.1 hc_29.2 (by decide) rfl rfl ⟨by decide, by decide⟩ hm_ rfl (Nat.le_of_ble_eq_true rfl) dL_did_29 (tableOf []) ⟨0, 114, 115, 73⟩ (tableOf []) rfl (fun z hz => nomatch hz) (by decide) (by decide) (name := "java/lang/IllegalStateException") ce_L_73 (by decide) 115 rfl (fun e47 S46 h => ?_)
          refine cg_astore_n (lv' := [(2, .ref e47), (0, .ref x0), (1, .int x1)]) C (i := 2) rfl (Nat.le_of_ble_eq_true rfl) rfl dL_did_115 ?_
          refine cg_bipush C (x := (-7)) rfl dL_did_116 ?_
          obtain ⟨hb_118, h⟩ := h
          exact cg_iret C h dL_did_118 hb_118.1 hb_118.2
    · have h := h.2 c_
      refine cg_aload_n C (i := 0) rfl 0 rfl dL_did_16 ?_
      obtain ⟨hc_17, h⟩ := h
      rcases h with h | ⟨mc51, ms52, hm_, h⟩
      · obtain ⟨mc55, ms56, hm_1, hm_2, h⟩ := h
        refine cg_calli C (t_X11_merge l mc55 ms56 x0 S dp h) cc_L_83 hc_17.1 hc_17.2 (by decide) rfl rfl ⟨by decide, by decide⟩ ⟨hm_1, hm_2⟩ rfl (Nat.le_of_ble_eq_true rfl) dL_did_17 (fun r_57 S_57 h => ?_)
        refine cg_goto C 114 (by decide) dL_did_20 ?_
        obtain ⟨hb_114, h⟩ := h
        exact cg_iret C h dL_did_114 hb_114.1 hb_114.2
      · refine cg_callx_catch C htab (tx_X11_merge l hlt "java/lang/IllegalStateException" mc51 ms52 x0 S dp h) cc_L_83 hc_17.1 hc_17.2 (by decide) rfl rfl ⟨by decide, by decide⟩ hm_ rfl (Nat.le_of_ble_eq_true rfl) dL_did_17 (tableOf []) ⟨0, 114, 115, 73⟩ (tableOf []) rfl (fun z hz => nomatch hz) (by decide) (by decide) (name := "java/lang/IllegalStateException") ce_L_73 (by decide) 115 rfl (fun e54 S53 h => ?_)
        refine cg_astore_n (lv' := [(2, .ref e54), (0, .ref x0), (1, .int x1)]) C (i := 2) rfl (Nat.le_of_ble_eq_true rfl) rfl dL_did_115 ?_
        refine cg_bipush C (x := (-7)) rfl dL_did_116 ?_
        obtain ⟨hb_118, h⟩ := h
        exact cg_iret C h dL_did_118 hb_118.1 hb_118.2
  · have h := h.2 c_
    refine cg_aload_n C (i := 0) rfl 0 rfl dL_did_4 ?_
    obtain ⟨hc_5, h⟩ := h
    rcases h with h | ⟨mc58, ms59, hm_, h⟩
    · obtain ⟨mc62, ms63, hm_1, hm_2, h⟩ := h
      refine cg_calli C (t_X11_flush l mc62 ms63 x0 S dp h) cc_L_79 hc_5.1 hc_5.2 (by decide) rfl rfl ⟨by decide, by decide⟩ ⟨hm_1, hm_2⟩ rfl (Nat.le_of_ble_eq_true rfl) dL_did_5 (fun r_64 S_64 h => ?_)
      refine cg_goto C 114 (by decide) dL_did_8 ?_
      obtain ⟨hb_114, h⟩ := h
      exact cg_iret C h dL_did_114 hb_114.1 hb_114.2
    · refine cg_callx_catch C htab (tx_X11_flush l hlt "java/lang/IllegalStateException" mc58 ms59 x0 S dp h) cc_L_79 hc_5.1 hc_5.2 (by decide) rfl rfl ⟨by decide, by decide⟩ hm_ rfl (Nat.le_of_ble_eq_true rfl) dL_did_5 (tableOf []) ⟨0, 114, 115, 73⟩ (tableOf []) rfl (fun z hz => nomatch hz) (by decide) (by decide) (name := "java/lang/IllegalStateException") ce_L_73 (by decide) 115 rfl (fun e61 S60 h => ?_)
      refine cg_astore_n (lv' := [(2, .ref e61), (0, .ref x0), (1, .int x1)]) C (i := 2) rfl (Nat.le_of_ble_eq_true rfl) rfl dL_did_115 ?_
      refine cg_bipush C (x := (-7)) rfl dL_did_116 ?_
      obtain ⟨hb_118, h⟩ := h
      exact cg_iret C h dL_did_118 hb_118.1 hb_118.2
def kw_L_looked (Q : Int32 → cS → Prop) (dp : Nat) (mc ms : Nat) (x0 : Nat) (x1 : Int32) (S : cS) : Prop :=
cA S x0 11 ∧ ((((∃ mc5 ms6 : Nat, 0 + mc5 ≤ mc ∧ 0 + ms6 ≤ ms ∧ (k_X11_look (fun r_7 S_7 => 
(0 + mc5 ≤ mc ∧ 0 + ms6 ≤ ms) ∧ (Q r_7 S_7)) dp mc5 ms6 x0 x1 S))) ∨
 (∃ mc1 ms2 : Nat, (0 + mc1 ≤ mc ∧ 0 + ms2 ≤ ms) ∧ kx_X11_look "java/lang/IllegalStateException" (fun S3 =>
(0 + mc1 ≤ mc ∧ 0 + ms2 ≤ ms) ∧ (Q (((-7))) S3)) dp mc1 ms2 x0 x1 S)))
set_option maxHeartbeats 1000000 in
set_option maxRecDepth 20000 in
theorem tw_L_looked (l : Launch) (hlt : l.stackTraces = false) (mc ms : Nat) (x0 : Nat) (x1 : Int32) (S : cS) (dp : Nat) {P : Int32 → cS → Prop} (h : kw_L_looked P dp mc ms x0 x1 S) : cMetW (cQi P) l yL_looked cL_looked 3 (some .int) [(0, 5, 6, 73)] 11 mc ms 255 [.ref x0, .int x1] S dp := by
  intro D Y tp sz
  refine cg_bodyW (by decide +kernel) (Nat.le_of_ble_eq_true rfl) ?_
  intro p e s m args below meth c C htab
  generalize va_A (cWd Y S) sz = A at C ⊢
  have C : cC p s m args meth c cL_looked 3 (some .int) A D Y tp dp RL := C
  refine cg_lv (lv' := [(0, .ref x0), (1, .int x1)]) rfl ?_
  unfold kw_L_looked at h
  refine cg_aload_n C (i := 0) rfl 0 rfl dL_looked_0 ?_
  refine cg_iload_n C (i := 1) rfl 1 rfl dL_looked_1 ?_
  obtain ⟨hc_2, h⟩ := h
  rcases h with h | ⟨mc1, ms2, hm_, h⟩
  · obtain ⟨mc5, ms6, hm_1, hm_2, h⟩ := h
    refine cg_calli C (t_X11_look l mc5 ms6 x0 x1 S dp h) cc_L_110 hc_2.1 hc_2.2 (by decide) rfl rfl ⟨by decide, by decide⟩ ⟨hm_1, hm_2⟩ rfl (Nat.le_of_ble_eq_true rfl) dL_looked_2 (fun r_7 S_7 h => ?_)
    obtain ⟨hb_5, h⟩ := h
    exact cg_iret C h dL_looked_5 hb_5.1 hb_5.2
  · refine cg_callx_catch C htab (tx_X11_look l hlt "java/lang/IllegalStateException" mc1 ms2 x0 x1 S dp h) cc_L_110 hc_2.1 hc_2.2 (by decide) rfl rfl ⟨by decide, by decide⟩ hm_ rfl (Nat.le_of_ble_eq_true rfl) dL_looked_2 (tableOf []) ⟨0, 5, 6, 73⟩ (tableOf []) rfl (fun z hz => nomatch hz) (by decide) (by decide) (name := "java/lang/IllegalStateException") ce_L_73 (by decide) 6 rfl (fun e4 S3 h => ?_)
    refine cg_astore_n (lv' := [(2, .ref e4), (0, .ref x0), (1, .int x1)]) C (i := 2) rfl (Nat.le_of_ble_eq_true rfl) rfl dL_looked_6 ?_
    refine cg_bipush C (x := (-7)) rfl dL_looked_7 ?_
    obtain ⟨hb_9, h⟩ := h
    exact cg_iret C h dL_looked_9 hb_9.1 hb_9.2
def kw_L_isHeld (Q : Int32 → cS → Prop) (dp : Nat) (mc ms : Nat) (x0 : Nat) (S : cS) : Prop :=
False
set_option maxHeartbeats 1000000 in
set_option maxRecDepth 20000 in
theorem tw_L_isHeld (l : Launch) (hlt : l.stackTraces = false) (mc ms : Nat) (x0 : Nat) (S : cS) (dp : Nat) {P : Int32 → cS → Prop} (h : kw_L_isHeld P dp mc ms x0 S) : cMetW (cQi P) l yL_isHeld cL_isHeld 2 (some .boolean) [(0, 4, 5, 320), (0, 4, 8, 322), (0, 4, 11, 73)] 0 mc ms 0 [.ref x0] S dp := by
  intro D Y tp sz
  refine cg_bodyW (by decide +kernel) (Nat.le_of_ble_eq_true rfl) ?_
  intro p e s m args below meth c C htab
  generalize va_A (cWd Y S) sz = A at C ⊢
  have C : cC p s m args meth c cL_isHeld 2 (some .boolean) A D Y tp dp RL := C
  refine cg_lv (lv' := [(0, .ref x0)]) rfl ?_
  unfold kw_L_isHeld at h
  refine cg_aload_n C (i := 0) rfl 0 rfl dL_isHeld_0 ?_
  exact h.elim
