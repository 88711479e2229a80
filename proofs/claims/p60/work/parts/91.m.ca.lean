/-! the law's methods as predicates, and their contracts -/
section Ss_L_from
variable {p : Program} {l : Launch} {e : Env} {s : State} {m : MethodId} {args : Array Value} {below : List Frame} {meth : Method} {c : Code} {A : Nat → Prop} {D : va_G} {Y : cY} {tp dp : Nat}
set_option maxRecDepth 20000 in
theorem tbs_L_from_28 {mc ms : Nat} (C : cC p s m args meth c cL_from 4 (some .int) A D Y tp dp RL) {sc L : Nat} {xs : Nat → Int32} (hX : va_X sc L xs s s.heap) (hbl : sc < s.heap.size) (hbA : ¬ A sc) (hL : L ≤ 260) {post : Int32 → cS → Prop}   (x2 : Int32) (t0 : Int32) (cd dd : Nat) (S : cS) (h : ks_L_from_28 post dp mc ms L  x2 t0 cd dd S) : cG p l e (cRm 0 mc ms 0) s m args below meth c A D Y 4 (MQ below (cQi post D Y A) args s mc ms A) cd dd 28 [(2, .int x2)] [.int t0] S := by
  unfold ks_L_from_28 at h
  refine cg_istore_n C (i := 3) (lv' := [(3, .int t0), (2, .int x2)]) rfl (Nat.le_of_ble_eq_true rfl) rfl dL_from_28 ?_
  refine cg_iload_n C (i := 3) rfl 0 rfl dL_from_29 ?_
  refine cg_ldc C (x := (2147483647)) ckw_L_8 dL_from_30 ?_
  refine cg_iand C dL_from_32 ?_
  refine cg_iload_n C (i := 2) rfl 1 rfl dL_from_33 ?_
  obtain ⟨hc_34, h⟩ := h
  refine cg_irem C hc_34 dL_from_34 ?_
  obtain ⟨hb_35, h⟩ := h
  exact cg_iret C h dL_from_35 hb_35.1 hb_35.2
end Ss_L_from
set_option maxHeartbeats 1000000 in
set_option maxRecDepth 20000 in
theorem ts_L_from (l : Launch) {sc L : Nat} {xs : Nat → Int32} (hL : L ≤ 260) (mc ms : Nat) (x1 : Int32) (x2 : Int32) (S : cS) (dp : Nat) {P : Int32 → cS → Prop} (h : ks_L_from P dp mc ms L x1 x2 S) : cMetS (cQi P) l yL_from cL_from 4 (some .int) 0 mc ms 0 [.ref sc, .int x1, .int x2] S dp sc L xs := by
  intro D Y tp sz
  refine cg_bodyS (by decide +kernel) (Nat.le_of_ble_eq_true rfl) ?_
  intro p e s m args below meth c C hX hbl hbA
  generalize va_A (cWd Y S) sz = A at C hbA ⊢
  have C : cC p s m args meth c cL_from 4 (some .int) A D Y tp dp RL := C
  refine cg_lv (lv' := [(0, .ref sc), (1, .int x1), (2, .int x2)]) rfl ?_
  unfold ks_L_from at h
  refine cg_aload_n C (i := 0) rfl 0 rfl dL_from_0 ?_
  refine cg_scl C hX hbl hbA dL_from_1 ?_
  refine cg_if_ne C 17 (by decide) dL_from_2 (fun c_ => ?_) (fun c_ => ?_)
  · have h := h.1 c_
    refine cg_aload_n C (i := 0) rfl 0 rfl dL_from_17 ?_
    refine cg_iload_n C (i := 1) rfl 1 rfl dL_from_18 ?_
    refine cg_aload_n C (i := 0) rfl 0 rfl dL_from_19 ?_
    refine cg_scl C hX hbl hbA dL_from_20 ?_
    obtain ⟨hc_21, h⟩ := h
    refine cg_irem C hc_21 dL_from_21 ?_
    obtain ⟨hc_22, h⟩ := h
    refine cg_scr C hX hbl hbA hc_22 dL_from_22 ?_
    generalize xs ((x1 - x1 / ((nI L)) * ((nI L)))).toNatClampNeg = z1
    have h := h z1
    refine cg_ldc C (x := (231547)) ckw_L_7 dL_from_23 ?_
    refine cg_iload_n C (i := 1) rfl 1 rfl dL_from_25 ?_
    refine cg_imul C dL_from_26 ?_
    refine cg_ixor C dL_from_27 ?_
    exact cg_sub [2] rfl (tbs_L_from_28 C hX hbl hbA hL  x2 ((z1 ^^^ (((((231547))) * x1)))) 0 0 S h)
  · have h := h.2 c_
    refine cg_sipush C (x := nI 311) rfl dL_from_5 ?_
    refine cg_iload_n C (i := 1) rfl 1 rfl dL_from_8 ?_
    refine cg_imul C dL_from_9 ?_
    refine cg_sipush C (x := nI 277) rfl dL_from_10 ?_
    refine cg_iadd C dL_from_13 ?_
    refine cg_goto C 28 (by decide) dL_from_14 ?_
    exact cg_sub [2] rfl (tbs_L_from_28 C hX hbl hbA hL  x2 ((((((nI 311)) * x1)) + ((nI 277)))) 0 0 S h)
