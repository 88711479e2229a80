/-! the law's loop as a predicate over both worlds -/
section WL1
variable {p : Program} {l : Launch} {e : Env} {s : State} {m : MethodId} {below : List Frame} {meth : Method} {c : Code} {b L : Nat} {xs : Nat → Int32} {D : va_G} {Y : cY} {tp dp : Nat} {cells slots : Nat}
variable {pc : Nat} {lv lv' : List (Nat × Value)} {st : List Value} {S : cS} {a : Nat → Nat} {v : Nat → Int32} {f : Nat → Nat → Int32} {g : Nat → Nat → Int64}
theorem lq_sldR (C : lC p l s m meth c b L xs D Y tp dp) {i : Int32} (hL : L < 2 ^ 31) (hi : vp_in i L) (d : decode code pc = .ok (.iaload, 1)) (kk : lG p l e s m below meth c b D Y cells slots (pc + 1) lv (.int (xs i.toNatClampNeg) :: st) S a v f g) : lG p l e s m below meth c b D Y cells slots pc lv (.int i :: .ref b :: st) S a v f g := by
  obtain ⟨e0, hlt⟩ := vp_nI hi hL
  have z := lq_sld C i.toNatClampNeg hlt hL d kk
  rw [← e0] at z
  exact z
theorem lq_laloadR (C : lC p l s m meth c b L xs D Y tp dp) {q : Nat} {i : Int32} (h : cX S q 15 i) (d : decode code pc = .ok (.laload, 1)) (kk : lG p l e s m below meth c b D Y cells slots (pc + 1) lv (.long (cJ S q i.toNatClampNeg) :: st) S a v f g) : lG p l e s m below meth c b D Y cells slots pc lv (.int i :: .ref q :: st) S a v f g := by
  obtain ⟨⟨h1, h2⟩, h3, h4⟩ := h
  obtain ⟨e0, hlt⟩ := vp_nI h4 h3
  have z := lq_laload C i.toNatClampNeg h1 h2 hlt h3 d kk
  rw [← e0] at z
  exact z
theorem lq_if_eqC (C : lC p l s m meth c b L xs D Y tp dp) {y z : Int64} {off : Int} (t : Nat) (ht : (pc : Int) + off = (t : Int)) (d : decode code pc = .ok (.ifCond .eq off, 3)) (kt : y = z → lG p l e s m below meth c b D Y cells slots t lv st S a v f g) (kf : ¬ y = z → lG p l e s m below meth c b D Y cells slots (pc + 3) lv st S a v f g) : lG p l e s m below meth c b D Y cells slots pc lv (.int (lg_cmp y z) :: st) S a v f g := lq_if_eq C t ht d (fun q => kt ((lg_cmp_eq y z).mp q)) (fun q => kf (fun h => q ((lg_cmp_eq y z).mpr h)))
theorem lq_callMW (C : lC p l s m meth c b L xs D Y tp dp) {y : MethodName} {cc' : ByteArray} {nL' idx n fr lo : Nat} {ret' : Option FieldType} {As : List Value} {stk : List Value} {P : Int32 → (Nat → Int32) → (Nat → Nat → Int32) → (Nat → Nat → Int64) → Prop} (hM : mMi l y cc' nL' ret' fr lo false As v f g (fun r w => P r w.1 w.2.1 w.2.2)) (hc : (Cond.methodLink RL idx y ∈ lWs ∧ Cond.instanceMethod y ∈ lWs ∧ Cond.selects RX12 y y ∈ lWs) ∧ Cond.code y cc' nL' ret' ∈ mWs ∧ (parseMethodDescriptor y.desc).map (fun d => d.parameters.length) = some n) (hy : y.cls = RX12) (hn : As.length = n) (hR : fr + 1 ≤ 2048 ∧ 8 + (nL' + 11) + lo ≤ 84000) (hm : cells ≤ 601024 ∧ slots ≤ 7293033) (hst : stk = As.reverse ++ .ref (a 0) :: st) (hsz : (st.map fun v => v.category).sum ≤ 8) (d : decode code pc = .ok (.invokevirtual idx, 3)) (kk : ∀ (r : Int32) (v' : Nat → Int32) (f' : Nat → Nat → Int32) (g' : Nat → Nat → Int64), P r v' f' g' → lG p l e s m below meth c b D Y cells slots (pc + 3) lv (.int r :: st) S a v' f' g') : lG p l e s m below meth c b D Y cells slots pc lv stk S a v f g := lq_callM C hM hc hy hn hR hm hst hsz d (fun r v' f' g' h => kk r v' f' g' h)
theorem lq_callMvW (C : lC p l s m meth c b L xs D Y tp dp) {y : MethodName} {cc' : ByteArray} {nL' idx n fr lo : Nat} {ret' : Option FieldType} {As : List Value} {stk : List Value} {P : (Nat → Int32) → (Nat → Nat → Int32) → (Nat → Nat → Int64) → Prop} (hM : mMv l y cc' nL' ret' fr lo false As v f g (fun w => P w.1 w.2.1 w.2.2)) (hc : (Cond.methodLink RL idx y ∈ lWs ∧ Cond.instanceMethod y ∈ lWs ∧ Cond.selects RX12 y y ∈ lWs) ∧ Cond.code y cc' nL' ret' ∈ mWs ∧ (parseMethodDescriptor y.desc).map (fun d => d.parameters.length) = some n) (hy : y.cls = RX12) (hn : As.length = n) (hR : fr + 1 ≤ 2048 ∧ 8 + (nL' + 11) + lo ≤ 84000) (hm : cells ≤ 601024 ∧ slots ≤ 7293033) (hst : stk = As.reverse ++ .ref (a 0) :: st) (hsz : (st.map fun v => v.category).sum ≤ 8) (d : decode code pc = .ok (.invokevirtual idx, 3)) (kk : ∀ (v' : Nat → Int32) (f' : Nat → Nat → Int32) (g' : Nat → Nat → Int64), P v' f' g' → lG p l e s m below meth c b D Y cells slots (pc + 3) lv (st) S a v' f' g') : lG p l e s m below meth c b D Y cells slots pc lv stk S a v f g := lq_callMv C hM hc hy hn hR hm hst hsz d (fun v' f' g' h => kk v' f' g' h)
end WL1
section WL2
variable {p : Program} {l : Launch} {e : Env} {s : State} {m : MethodId} {below : List Frame} {meth : Method} {c : Code} {b L : Nat} {xs : Nat → Int32} {D : va_G} {Y : cY} {tp dp x out : Nat} {a : Nat → Nat}
theorem lz_tail (C : lC p l s m meth c b L xs D Y tp dp) {R : Int32 → Nat → Nat → cS → (Nat → Int32) → (Nat → Nat → Int32) → (Nat → Nat → Int64) → Prop} (hR : ∀ (x4 : Int32) (cd dd : Nat) (S : cS) (v : Nat → Int32) (f : Nat → Nat → Int32) (g : Nat → Nat → Int64), R x4 cd dd S v f g → lG p l e s m below meth c b D Y cd dd 23 [(4, .int x4), (3, .ref out), (2, .ref (a 0)), (1, .ref x), (0, .ref b)] [] S a v f g) (x4 : Int32) (cd dd : Nat) (S : cS) (v : Nat → Int32) (f : Nat → Nat → Int32) (g : Nat → Nat → Int64) (h : lw_tail R x4 cd dd S v f g) : lG p l e s m below meth c b D Y cd dd 3491 [(4, .int x4), (3, .ref out), (2, .ref (a 0)), (1, .ref x), (0, .ref b)] [] S a v f g := by
  obtain ⟨y, ey⟩ : ∃ y : Int32, y = x4 + nI 6 := ⟨_, rfl⟩
  refine lq_iinc C (y := y) (lv' := [(4, .int y), (3, .ref out), (2, .ref (a 0)), (1, .ref x), (0, .ref b)]) 0 rfl (by rw [ey]; rfl) (by decide) rfl dL_law_3491 ?_
  refine lq_goto C 23 (by decide) dL_law_3494 ?_
  exact hR y cd dd S v f g (h y ey)
set_option maxHeartbeats 1000000 in
set_option maxRecDepth 20000 in
theorem lz_c0 (C : lC p l s m meth c b L xs D Y tp dp) (hL : L < 2 ^ 31) {R : Int32 → Nat → Nat → cS → (Nat → Int32) → (Nat → Nat → Int32) → (Nat → Nat → Int64) → Prop} (hR : ∀ (x4 : Int32) (cd dd : Nat) (S : cS) (v : Nat → Int32) (f : Nat → Nat → Int32) (g : Nat → Nat → Int64), R x4 cd dd S v f g → lG p l e s m below meth c b D Y cd dd 23 [(4, .int x4), (3, .ref out), (2, .ref (a 0)), (1, .ref x), (0, .ref b)] [] S a v f g) (x4 : Int32) (cd dd : Nat) (S : cS) (v : Nat → Int32) (f : Nat → Nat → Int32) (g : Nat → Nat → Int64) (h : lw_c0 R xs L dp x out x4 cd dd S v f g) : lG p l e s m below meth c b D Y cd dd 284 [(4, .int x4), (3, .ref out), (2, .ref (a 0)), (1, .ref x), (0, .ref b)] [] S a v f g := by
  have hlt := C.2.2.2.2.2.2.2.2.2.2.1
  unfold lw_c0 at h
  refine lq_aload_n C (i := 1) rfl 3 rfl dL_law_284 ?_
  refine lq_aload_n C (i := 0) rfl 4 rfl dL_law_285 ?_
  refine lq_iload C 0 rfl dL_law_286 ?_
  refine lq_iconst C (x := nI 1) rfl dL_law_288 ?_
  refine lq_iadd C dL_law_289 ?_
  obtain ⟨hc_290, h⟩ := h
  refine lq_sldR C hL hc_290 dL_law_290 ?_
  refine lq_i2c C dL_law_291 ?_
  refine lq_aload_n C (i := 3) rfl 1 rfl dL_law_292 ?_
  obtain ⟨mc2, ms3, hm_, h⟩ := h
  refine lq_callW C (tw_L_type l hlt mc2 ms3 x (((((xs ((x4 + ((nI 1)))).toNatClampNeg)).toUInt32 % 65536).toInt32)) out S dp h) lH_186 rfl rfl ⟨by decide, by decide⟩ hm_ rfl (Nat.le_of_ble_eq_true rfl) dL_law_293 (fun r_1 S_1 h => ?_)
  refine lq_istore C (lv' := [(5, .int r_1), (4, .int x4), (3, .ref out), (2, .ref (a 0)), (1, .ref x), (0, .ref b)]) (by decide) rfl dL_law_296 ?_
  refine lq_aload_n C (i := 2) rfl 3 rfl dL_law_298 ?_
  refine lq_aload_n C (i := 0) rfl 5 rfl dL_law_299 ?_
  refine lq_iload C 1 rfl dL_law_300 ?_
  refine lq_iconst C (x := nI 1) rfl dL_law_302 ?_
  refine lq_iadd C dL_law_303 ?_
  obtain ⟨hc_304, h⟩ := h
  refine lq_sldR C hL hc_304 dL_law_304 ?_
  refine lq_i2c C dL_law_305 ?_
  obtain ⟨hc_306, h⟩ := h
  refine lq_callMW C (s_type l (((((xs ((x4 + ((nI 1)))).toNatClampNeg)).toUInt32 % 65536).toInt32)) v f g h) lM_191 rfl rfl ⟨by decide, by decide⟩ hc_306 rfl (Nat.le_of_ble_eq_true rfl) dL_law_306 (fun r_4 v_4 f_4 g_4 h => ?_)
  refine lq_istore C (lv' := [(6, .int r_4), (5, .int r_1), (4, .int x4), (3, .ref out), (2, .ref (a 0)), (1, .ref x), (0, .ref b)]) (by decide) rfl dL_law_309 ?_
  refine lq_aload_n C (i := 2) rfl 4 rfl dL_law_311 ?_
  obtain ⟨hc_312, h⟩ := h
  refine lq_callMW C (s_thrown l  v_4 f_4 g_4 h) lM_192 rfl rfl ⟨by decide, by decide⟩ hc_312 rfl (Nat.le_of_ble_eq_true rfl) dL_law_312 (fun r_5 v_5 f_5 g_5 h => ?_)
  refine lq_iload C 1 rfl dL_law_315 ?_
  obtain ⟨hc_317, h⟩ := h
  refine lq_icmp_eq C 322 (by decide) dL_law_317 (fun _ => ?_) (fun c_ => absurd hc_317 c_)
  refine lq_iload C 1 rfl dL_law_322 ?_
  refine lq_if_ne C 339 (by decide) dL_law_324 (fun c_ => ?_) (fun c_ => ?_)
  · have h := h.1 c_
    refine lq_goto C 3491 (by decide) dL_law_339 ?_
    exact lq_sub [2, 3, 4, 5, 6] rfl (lz_tail C hR x4 (cd + mc2) (dd + ms3) S_1 v_5 f_5 g_5 h)
  · have h := h.2 c_
    refine lq_aload_n C (i := 3) rfl 3 rfl dL_law_327 ?_
    refine lq_iconst C (x := nI 0) rfl dL_law_328 ?_
    obtain ⟨hc_329, h⟩ := h
    refine lq_laloadR C hc_329 dL_law_329 ?_
    refine lq_iload C 0 rfl dL_law_330 ?_
    refine lq_i2l C dL_law_332 ?_
    refine lq_lcmp C dL_law_333 ?_
    obtain ⟨hc_334, h⟩ := h
    refine lq_if_eqC C 339 (by decide) dL_law_334 (fun _ => ?_) (fun c_ => absurd hc_334 c_)
    refine lq_goto C 3491 (by decide) dL_law_339 ?_
    exact lq_sub [2, 3, 4, 5, 6] rfl (lz_tail C hR x4 (cd + mc2) (dd + ms3) S_1 v_5 f_5 g_5 h)
set_option maxHeartbeats 1000000 in
set_option maxRecDepth 20000 in
theorem lz_c1 (C : lC p l s m meth c b L xs D Y tp dp) (hL : L < 2 ^ 31) {R : Int32 → Nat → Nat → cS → (Nat → Int32) → (Nat → Nat → Int32) → (Nat → Nat → Int64) → Prop} (hR : ∀ (x4 : Int32) (cd dd : Nat) (S : cS) (v : Nat → Int32) (f : Nat → Nat → Int32) (g : Nat → Nat → Int64), R x4 cd dd S v f g → lG p l e s m below meth c b D Y cd dd 23 [(4, .int x4), (3, .ref out), (2, .ref (a 0)), (1, .ref x), (0, .ref b)] [] S a v f g) (x4 : Int32) (cd dd : Nat) (S : cS) (v : Nat → Int32) (f : Nat → Nat → Int32) (g : Nat → Nat → Int64) (h : lw_c1 R xs L dp x out x4 cd dd S v f g) : lG p l e s m below meth c b D Y cd dd 342 [(4, .int x4), (3, .ref out), (2, .ref (a 0)), (1, .ref x), (0, .ref b)] [] S a v f g := by
  have hlt := C.2.2.2.2.2.2.2.2.2.2.1
  unfold lw_c1 at h
  refine lq_aload_n C (i := 1) rfl 3 rfl dL_law_342 ?_
  obtain ⟨hc_343, h⟩ := h
  obtain ⟨mc2, ms3, hm_, h⟩ := h
  refine lq_callC C (t_X11_wipe l mc2 ms3 x S dp h) cc_L_195 hc_343.1 hc_343.2 (by decide) rfl rfl ⟨by decide, by decide⟩ hm_ rfl (Nat.le_of_ble_eq_true rfl) dL_law_343 (fun r_1 S_1 h => ?_)
  refine lq_aload_n C (i := 2) rfl 2 rfl dL_law_346 ?_
  obtain ⟨hc_347, h⟩ := h
  refine lq_callMW C (s_wipe l  v f g h) lM_198 rfl rfl ⟨by decide, by decide⟩ hc_347 rfl (Nat.le_of_ble_eq_true rfl) dL_law_347 (fun r_4 v_4 f_4 g_4 h => ?_)
  obtain ⟨hc_350, h⟩ := h
  refine lq_icmp_eq C 3491 (by decide) dL_law_350 (fun _ => ?_) (fun c_ => absurd hc_350 c_)
  exact lq_sub [0, 1, 2, 3, 4] rfl (lz_tail C hR x4 (cd + mc2) (dd + ms3) S_1 v_4 f_4 g_4 h)
set_option maxHeartbeats 1000000 in
set_option maxRecDepth 20000 in
theorem lz_c2 (C : lC p l s m meth c b L xs D Y tp dp) (hL : L < 2 ^ 31) {R : Int32 → Nat → Nat → cS → (Nat → Int32) → (Nat → Nat → Int32) → (Nat → Nat → Int64) → Prop} (hR : ∀ (x4 : Int32) (cd dd : Nat) (S : cS) (v : Nat → Int32) (f : Nat → Nat → Int32) (g : Nat → Nat → Int64), R x4 cd dd S v f g → lG p l e s m below meth c b D Y cd dd 23 [(4, .int x4), (3, .ref out), (2, .ref (a 0)), (1, .ref x), (0, .ref b)] [] S a v f g) (x4 : Int32) (cd dd : Nat) (S : cS) (v : Nat → Int32) (f : Nat → Nat → Int32) (g : Nat → Nat → Int64) (h : lw_c2 R xs L dp x out x4 cd dd S v f g) : lG p l e s m below meth c b D Y cd dd 355 [(4, .int x4), (3, .ref out), (2, .ref (a 0)), (1, .ref x), (0, .ref b)] [] S a v f g := by
  have hlt := C.2.2.2.2.2.2.2.2.2.2.1
  unfold lw_c2 at h
  refine lq_aload_n C (i := 1) rfl 3 rfl dL_law_355 ?_
  refine lq_aload_n C (i := 3) rfl 1 rfl dL_law_356 ?_
  obtain ⟨mc2, ms3, hm_, h⟩ := h
  refine lq_callW C (tw_L_stop l hlt mc2 ms3 x out S dp h) lH_199 rfl rfl ⟨by decide, by decide⟩ hm_ rfl (Nat.le_of_ble_eq_true rfl) dL_law_357 (fun r_1 S_1 h => ?_)
  refine lq_istore C (lv' := [(5, .int r_1), (4, .int x4), (3, .ref out), (2, .ref (a 0)), (1, .ref x), (0, .ref b)]) (by decide) rfl dL_law_360 ?_
  refine lq_aload_n C (i := 2) rfl 3 rfl dL_law_362 ?_
  obtain ⟨hc_363, h⟩ := h
  refine lq_callMW C (s_stop l  v f g h) lM_202 rfl rfl ⟨by decide, by decide⟩ hc_363 rfl (Nat.le_of_ble_eq_true rfl) dL_law_363 (fun r_4 v_4 f_4 g_4 h => ?_)
  refine lq_istore C (lv' := [(6, .int r_4), (5, .int r_1), (4, .int x4), (3, .ref out), (2, .ref (a 0)), (1, .ref x), (0, .ref b)]) (by decide) rfl dL_law_366 ?_
  refine lq_aload_n C (i := 2) rfl 4 rfl dL_law_368 ?_
  obtain ⟨hc_369, h⟩ := h
  refine lq_callMW C (s_thrown l  v_4 f_4 g_4 h) lM_192 rfl rfl ⟨by decide, by decide⟩ hc_369 rfl (Nat.le_of_ble_eq_true rfl) dL_law_369 (fun r_5 v_5 f_5 g_5 h => ?_)
  refine lq_iload C 1 rfl dL_law_372 ?_
  obtain ⟨hc_374, h⟩ := h
  refine lq_icmp_eq C 379 (by decide) dL_law_374 (fun _ => ?_) (fun c_ => absurd hc_374 c_)
  refine lq_iload C 1 rfl dL_law_379 ?_
  refine lq_if_ne C 396 (by decide) dL_law_381 (fun c_ => ?_) (fun c_ => ?_)
  · have h := h.1 c_
    refine lq_goto C 3491 (by decide) dL_law_396 ?_
    exact lq_sub [2, 3, 4, 5, 6] rfl (lz_tail C hR x4 (cd + mc2) (dd + ms3) S_1 v_5 f_5 g_5 h)
  · have h := h.2 c_
    refine lq_aload_n C (i := 3) rfl 3 rfl dL_law_384 ?_
    refine lq_iconst C (x := nI 0) rfl dL_law_385 ?_
    obtain ⟨hc_386, h⟩ := h
    refine lq_laloadR C hc_386 dL_law_386 ?_
    refine lq_iload C 0 rfl dL_law_387 ?_
    refine lq_i2l C dL_law_389 ?_
    refine lq_lcmp C dL_law_390 ?_
    obtain ⟨hc_391, h⟩ := h
    refine lq_if_eqC C 396 (by decide) dL_law_391 (fun _ => ?_) (fun c_ => absurd hc_391 c_)
    refine lq_goto C 3491 (by decide) dL_law_396 ?_
    exact lq_sub [2, 3, 4, 5, 6] rfl (lz_tail C hR x4 (cd + mc2) (dd + ms3) S_1 v_5 f_5 g_5 h)
set_option maxHeartbeats 1000000 in
set_option maxRecDepth 20000 in
theorem lz_c3 (C : lC p l s m meth c b L xs D Y tp dp) (hL : L < 2 ^ 31) {R : Int32 → Nat → Nat → cS → (Nat → Int32) → (Nat → Nat → Int32) → (Nat → Nat → Int64) → Prop} (hR : ∀ (x4 : Int32) (cd dd : Nat) (S : cS) (v : Nat → Int32) (f : Nat → Nat → Int32) (g : Nat → Nat → Int64), R x4 cd dd S v f g → lG p l e s m below meth c b D Y cd dd 23 [(4, .int x4), (3, .ref out), (2, .ref (a 0)), (1, .ref x), (0, .ref b)] [] S a v f g) (x4 : Int32) (cd dd : Nat) (S : cS) (v : Nat → Int32) (f : Nat → Nat → Int32) (g : Nat → Nat → Int64) (h : lw_c3 R xs L dp x out x4 cd dd S v f g) : lG p l e s m below meth c b D Y cd dd 399 [(4, .int x4), (3, .ref out), (2, .ref (a 0)), (1, .ref x), (0, .ref b)] [] S a v f g := by
  have hlt := C.2.2.2.2.2.2.2.2.2.2.1
  unfold lw_c3 at h
  refine lq_aload_n C (i := 1) rfl 3 rfl dL_law_399 ?_
  refine lq_aload_n C (i := 3) rfl 1 rfl dL_law_400 ?_
  obtain ⟨mc2, ms3, hm_, h⟩ := h
  refine lq_callW C (tw_L_synonym l hlt mc2 ms3 x out S dp h) lH_203 rfl rfl ⟨by decide, by decide⟩ hm_ rfl (Nat.le_of_ble_eq_true rfl) dL_law_401 (fun r_1 S_1 h => ?_)
  refine lq_istore C (lv' := [(5, .int r_1), (4, .int x4), (3, .ref out), (2, .ref (a 0)), (1, .ref x), (0, .ref b)]) (by decide) rfl dL_law_404 ?_
  refine lq_aload_n C (i := 2) rfl 3 rfl dL_law_406 ?_
  obtain ⟨hc_407, h⟩ := h
  refine lq_callMW C (s_synonym l  v f g h) lM_205 rfl rfl ⟨by decide, by decide⟩ hc_407 rfl (Nat.le_of_ble_eq_true rfl) dL_law_407 (fun r_4 v_4 f_4 g_4 h => ?_)
  refine lq_istore C (lv' := [(6, .int r_4), (5, .int r_1), (4, .int x4), (3, .ref out), (2, .ref (a 0)), (1, .ref x), (0, .ref b)]) (by decide) rfl dL_law_410 ?_
  refine lq_aload_n C (i := 2) rfl 4 rfl dL_law_412 ?_
  obtain ⟨hc_413, h⟩ := h
  refine lq_callMW C (s_thrown l  v_4 f_4 g_4 h) lM_192 rfl rfl ⟨by decide, by decide⟩ hc_413 rfl (Nat.le_of_ble_eq_true rfl) dL_law_413 (fun r_5 v_5 f_5 g_5 h => ?_)
  refine lq_iload C 1 rfl dL_law_416 ?_
  obtain ⟨hc_418, h⟩ := h
  refine lq_icmp_eq C 423 (by decide) dL_law_418 (fun _ => ?_) (fun c_ => absurd hc_418 c_)
  refine lq_iload C 1 rfl dL_law_423 ?_
  refine lq_if_ne C 440 (by decide) dL_law_425 (fun c_ => ?_) (fun c_ => ?_)
  · have h := h.1 c_
    refine lq_goto C 3491 (by decide) dL_law_440 ?_
    exact lq_sub [2, 3, 4, 5, 6] rfl (lz_tail C hR x4 (cd + mc2) (dd + ms3) S_1 v_5 f_5 g_5 h)
  · have h := h.2 c_
    refine lq_aload_n C (i := 3) rfl 3 rfl dL_law_428 ?_
    refine lq_iconst C (x := nI 0) rfl dL_law_429 ?_
    obtain ⟨hc_430, h⟩ := h
    refine lq_laloadR C hc_430 dL_law_430 ?_
    refine lq_iload C 0 rfl dL_law_431 ?_
    refine lq_i2l C dL_law_433 ?_
    refine lq_lcmp C dL_law_434 ?_
    obtain ⟨hc_435, h⟩ := h
    refine lq_if_eqC C 440 (by decide) dL_law_435 (fun _ => ?_) (fun c_ => absurd hc_435 c_)
    refine lq_goto C 3491 (by decide) dL_law_440 ?_
    exact lq_sub [2, 3, 4, 5, 6] rfl (lz_tail C hR x4 (cd + mc2) (dd + ms3) S_1 v_5 f_5 g_5 h)
set_option maxHeartbeats 1000000 in
set_option maxRecDepth 20000 in
theorem lz_c4 (C : lC p l s m meth c b L xs D Y tp dp) (hL : L < 2 ^ 31) {R : Int32 → Nat → Nat → cS → (Nat → Int32) → (Nat → Nat → Int32) → (Nat → Nat → Int64) → Prop} (hR : ∀ (x4 : Int32) (cd dd : Nat) (S : cS) (v : Nat → Int32) (f : Nat → Nat → Int32) (g : Nat → Nat → Int64), R x4 cd dd S v f g → lG p l e s m below meth c b D Y cd dd 23 [(4, .int x4), (3, .ref out), (2, .ref (a 0)), (1, .ref x), (0, .ref b)] [] S a v f g) (x4 : Int32) (cd dd : Nat) (S : cS) (v : Nat → Int32) (f : Nat → Nat → Int32) (g : Nat → Nat → Int64) (h : lw_c4 R xs L dp x out x4 cd dd S v f g) : lG p l e s m below meth c b D Y cd dd 443 [(4, .int x4), (3, .ref out), (2, .ref (a 0)), (1, .ref x), (0, .ref b)] [] S a v f g := by
  have hlt := C.2.2.2.2.2.2.2.2.2.2.1
  unfold lw_c4 at h
  refine lq_aload_n C (i := 1) rfl 3 rfl dL_law_443 ?_
  refine lq_aload_n C (i := 0) rfl 4 rfl dL_law_444 ?_
  refine lq_iload C 0 rfl dL_law_445 ?_
  refine lq_iconst C (x := nI 1) rfl dL_law_447 ?_
  refine lq_iadd C dL_law_448 ?_
  obtain ⟨hc_449, h⟩ := h
  refine lq_sldR C hL hc_449 dL_law_449 ?_
  refine lq_aload_n C (i := 3) rfl 1 rfl dL_law_450 ?_
  obtain ⟨mc2, ms3, hm_, h⟩ := h
  refine lq_callW C (tw_L_text l hlt mc2 ms3 x ((xs ((x4 + ((nI 1)))).toNatClampNeg)) out S dp h) lH_206 rfl rfl ⟨by decide, by decide⟩ hm_ rfl (Nat.le_of_ble_eq_true rfl) dL_law_451 (fun r_1 S_1 h => ?_)
  refine lq_istore C (lv' := [(5, .int r_1), (4, .int x4), (3, .ref out), (2, .ref (a 0)), (1, .ref x), (0, .ref b)]) (by decide) rfl dL_law_454 ?_
  refine lq_aload_n C (i := 2) rfl 3 rfl dL_law_456 ?_
  refine lq_aload_n C (i := 0) rfl 5 rfl dL_law_457 ?_
  refine lq_iload C 1 rfl dL_law_458 ?_
  refine lq_iconst C (x := nI 1) rfl dL_law_460 ?_
  refine lq_iadd C dL_law_461 ?_
  obtain ⟨hc_462, h⟩ := h
  refine lq_sldR C hL hc_462 dL_law_462 ?_
  obtain ⟨hc_463, h⟩ := h
  refine lq_callMW C (s_text l ((xs ((x4 + ((nI 1)))).toNatClampNeg)) v f g h) lM_209 rfl rfl ⟨by decide, by decide⟩ hc_463 rfl (Nat.le_of_ble_eq_true rfl) dL_law_463 (fun r_4 v_4 f_4 g_4 h => ?_)
  refine lq_istore C (lv' := [(6, .int r_4), (5, .int r_1), (4, .int x4), (3, .ref out), (2, .ref (a 0)), (1, .ref x), (0, .ref b)]) (by decide) rfl dL_law_466 ?_
  refine lq_aload_n C (i := 2) rfl 4 rfl dL_law_468 ?_
  obtain ⟨hc_469, h⟩ := h
  refine lq_callMW C (s_thrown l  v_4 f_4 g_4 h) lM_192 rfl rfl ⟨by decide, by decide⟩ hc_469 rfl (Nat.le_of_ble_eq_true rfl) dL_law_469 (fun r_5 v_5 f_5 g_5 h => ?_)
  refine lq_iload C 1 rfl dL_law_472 ?_
  obtain ⟨hc_474, h⟩ := h
  refine lq_icmp_eq C 479 (by decide) dL_law_474 (fun _ => ?_) (fun c_ => absurd hc_474 c_)
  refine lq_iload C 1 rfl dL_law_479 ?_
  refine lq_if_ne C 496 (by decide) dL_law_481 (fun c_ => ?_) (fun c_ => ?_)
  · have h := h.1 c_
    refine lq_goto C 3491 (by decide) dL_law_496 ?_
    exact lq_sub [2, 3, 4, 5, 6] rfl (lz_tail C hR x4 (cd + mc2) (dd + ms3) S_1 v_5 f_5 g_5 h)
  · have h := h.2 c_
    refine lq_aload_n C (i := 3) rfl 3 rfl dL_law_484 ?_
    refine lq_iconst C (x := nI 0) rfl dL_law_485 ?_
    obtain ⟨hc_486, h⟩ := h
    refine lq_laloadR C hc_486 dL_law_486 ?_
    refine lq_iload C 0 rfl dL_law_487 ?_
    refine lq_i2l C dL_law_489 ?_
    refine lq_lcmp C dL_law_490 ?_
    obtain ⟨hc_491, h⟩ := h
    refine lq_if_eqC C 496 (by decide) dL_law_491 (fun _ => ?_) (fun c_ => absurd hc_491 c_)
    refine lq_goto C 3491 (by decide) dL_law_496 ?_
    exact lq_sub [2, 3, 4, 5, 6] rfl (lz_tail C hR x4 (cd + mc2) (dd + ms3) S_1 v_5 f_5 g_5 h)
set_option maxHeartbeats 1000000 in
set_option maxRecDepth 20000 in
theorem lz_c5 (C : lC p l s m meth c b L xs D Y tp dp) (hL : L < 2 ^ 31) {R : Int32 → Nat → Nat → cS → (Nat → Int32) → (Nat → Nat → Int32) → (Nat → Nat → Int64) → Prop} (hR : ∀ (x4 : Int32) (cd dd : Nat) (S : cS) (v : Nat → Int32) (f : Nat → Nat → Int32) (g : Nat → Nat → Int64), R x4 cd dd S v f g → lG p l e s m below meth c b D Y cd dd 23 [(4, .int x4), (3, .ref out), (2, .ref (a 0)), (1, .ref x), (0, .ref b)] [] S a v f g) (x4 : Int32) (cd dd : Nat) (S : cS) (v : Nat → Int32) (f : Nat → Nat → Int32) (g : Nat → Nat → Int64) (h : lw_c5 R xs L dp x out x4 cd dd S v f g) : lG p l e s m below meth c b D Y cd dd 499 [(4, .int x4), (3, .ref out), (2, .ref (a 0)), (1, .ref x), (0, .ref b)] [] S a v f g := by
  have hlt := C.2.2.2.2.2.2.2.2.2.2.1
  unfold lw_c5 at h
  refine lq_aload_n C (i := 1) rfl 3 rfl dL_law_499 ?_
  refine lq_aload_n C (i := 0) rfl 4 rfl dL_law_500 ?_
  refine lq_iload C 0 rfl dL_law_501 ?_
  refine lq_iconst C (x := nI 1) rfl dL_law_503 ?_
  refine lq_iadd C dL_law_504 ?_
  obtain ⟨hc_505, h⟩ := h
  refine lq_sldR C hL hc_505 dL_law_505 ?_
  refine lq_aload_n C (i := 0) rfl 4 rfl dL_law_506 ?_
  refine lq_iload C 0 rfl dL_law_507 ?_
  refine lq_iconst C (x := nI 2) rfl dL_law_509 ?_
  refine lq_iadd C dL_law_510 ?_
  obtain ⟨hc_511, h⟩ := h
  refine lq_sldR C hL hc_511 dL_law_511 ?_
  obtain ⟨mc2, ms3, hm_, h⟩ := h
  refine lq_callW C (tw_L_columns l hlt mc2 ms3 x ((xs ((x4 + ((nI 1)))).toNatClampNeg)) ((xs ((x4 + ((nI 2)))).toNatClampNeg)) S dp h) lH_210 rfl rfl ⟨by decide, by decide⟩ hm_ rfl (Nat.le_of_ble_eq_true rfl) dL_law_512 (fun r_1 S_1 h => ?_)
  refine lq_istore C (lv' := [(5, .int r_1), (4, .int x4), (3, .ref out), (2, .ref (a 0)), (1, .ref x), (0, .ref b)]) (by decide) rfl dL_law_515 ?_
  refine lq_aload_n C (i := 2) rfl 3 rfl dL_law_517 ?_
  refine lq_aload_n C (i := 0) rfl 5 rfl dL_law_518 ?_
  refine lq_iload C 1 rfl dL_law_519 ?_
  refine lq_iconst C (x := nI 1) rfl dL_law_521 ?_
  refine lq_iadd C dL_law_522 ?_
  obtain ⟨hc_523, h⟩ := h
  refine lq_sldR C hL hc_523 dL_law_523 ?_
  refine lq_aload_n C (i := 0) rfl 5 rfl dL_law_524 ?_
  refine lq_iload C 1 rfl dL_law_525 ?_
  refine lq_iconst C (x := nI 2) rfl dL_law_527 ?_
  refine lq_iadd C dL_law_528 ?_
  obtain ⟨hc_529, h⟩ := h
  refine lq_sldR C hL hc_529 dL_law_529 ?_
  obtain ⟨hc_530, h⟩ := h
  refine lq_callMvW C (s_columns l ((xs ((x4 + ((nI 1)))).toNatClampNeg)) ((xs ((x4 + ((nI 2)))).toNatClampNeg)) v f g h) lM_213 rfl rfl ⟨by decide, by decide⟩ hc_530 rfl (Nat.le_of_ble_eq_true rfl) dL_law_530 (fun v_4 f_4 g_4 h => ?_)
  refine lq_aload_n C (i := 2) rfl 3 rfl dL_law_533 ?_
  obtain ⟨hc_534, h⟩ := h
  refine lq_callMW C (s_thrown l  v_4 f_4 g_4 h) lM_192 rfl rfl ⟨by decide, by decide⟩ hc_534 rfl (Nat.le_of_ble_eq_true rfl) dL_law_534 (fun r_5 v_5 f_5 g_5 h => ?_)
  refine lq_iload C 0 rfl dL_law_537 ?_
  obtain ⟨hc_539, h⟩ := h
  refine lq_icmp_eq C 544 (by decide) dL_law_539 (fun _ => ?_) (fun c_ => absurd hc_539 c_)
  refine lq_goto C 3491 (by decide) dL_law_544 ?_
  exact lq_sub [1, 2, 3, 4, 5] rfl (lz_tail C hR x4 (cd + mc2) (dd + ms3) S_1 v_5 f_5 g_5 h)
set_option maxHeartbeats 1000000 in
set_option maxRecDepth 20000 in
theorem lz_c6 (C : lC p l s m meth c b L xs D Y tp dp) (hL : L < 2 ^ 31) {R : Int32 → Nat → Nat → cS → (Nat → Int32) → (Nat → Nat → Int32) → (Nat → Nat → Int64) → Prop} (hR : ∀ (x4 : Int32) (cd dd : Nat) (S : cS) (v : Nat → Int32) (f : Nat → Nat → Int32) (g : Nat → Nat → Int64), R x4 cd dd S v f g → lG p l e s m below meth c b D Y cd dd 23 [(4, .int x4), (3, .ref out), (2, .ref (a 0)), (1, .ref x), (0, .ref b)] [] S a v f g) (x4 : Int32) (cd dd : Nat) (S : cS) (v : Nat → Int32) (f : Nat → Nat → Int32) (g : Nat → Nat → Int64) (h : lw_c6 R xs L dp x out x4 cd dd S v f g) : lG p l e s m below meth c b D Y cd dd 547 [(4, .int x4), (3, .ref out), (2, .ref (a 0)), (1, .ref x), (0, .ref b)] [] S a v f g := by
  have hlt := C.2.2.2.2.2.2.2.2.2.2.1
  unfold lw_c6 at h
  refine lq_aload_n C (i := 1) rfl 3 rfl dL_law_547 ?_
  refine lq_aload_n C (i := 0) rfl 4 rfl dL_law_548 ?_
  refine lq_iload C 0 rfl dL_law_549 ?_
  refine lq_iconst C (x := nI 1) rfl dL_law_551 ?_
  refine lq_iadd C dL_law_552 ?_
  obtain ⟨hc_553, h⟩ := h
  refine lq_sldR C hL hc_553 dL_law_553 ?_
  refine lq_aload_n C (i := 3) rfl 1 rfl dL_law_554 ?_
  obtain ⟨mc2, ms3, hm_, h⟩ := h
  refine lq_callW C (tw_L_add l hlt mc2 ms3 x ((xs ((x4 + ((nI 1)))).toNatClampNeg)) out S dp h) lH_214 rfl rfl ⟨by decide, by decide⟩ hm_ rfl (Nat.le_of_ble_eq_true rfl) dL_law_555 (fun r_1 S_1 h => ?_)
  refine lq_istore C (lv' := [(5, .int r_1), (4, .int x4), (3, .ref out), (2, .ref (a 0)), (1, .ref x), (0, .ref b)]) (by decide) rfl dL_law_558 ?_
  refine lq_aload_n C (i := 2) rfl 3 rfl dL_law_560 ?_
  refine lq_aload_n C (i := 0) rfl 5 rfl dL_law_561 ?_
  refine lq_iload C 1 rfl dL_law_562 ?_
  refine lq_iconst C (x := nI 1) rfl dL_law_564 ?_
  refine lq_iadd C dL_law_565 ?_
  obtain ⟨hc_566, h⟩ := h
  refine lq_sldR C hL hc_566 dL_law_566 ?_
  obtain ⟨hc_567, h⟩ := h
  refine lq_callMW C (s_add l ((xs ((x4 + ((nI 1)))).toNatClampNeg)) v f g h) lM_216 rfl rfl ⟨by decide, by decide⟩ hc_567 rfl (Nat.le_of_ble_eq_true rfl) dL_law_567 (fun r_4 v_4 f_4 g_4 h => ?_)
  refine lq_istore C (lv' := [(6, .int r_4), (5, .int r_1), (4, .int x4), (3, .ref out), (2, .ref (a 0)), (1, .ref x), (0, .ref b)]) (by decide) rfl dL_law_570 ?_
  refine lq_aload_n C (i := 2) rfl 4 rfl dL_law_572 ?_
  obtain ⟨hc_573, h⟩ := h
  refine lq_callMW C (s_thrown l  v_4 f_4 g_4 h) lM_192 rfl rfl ⟨by decide, by decide⟩ hc_573 rfl (Nat.le_of_ble_eq_true rfl) dL_law_573 (fun r_5 v_5 f_5 g_5 h => ?_)
  refine lq_iload C 1 rfl dL_law_576 ?_
  obtain ⟨hc_578, h⟩ := h
  refine lq_icmp_eq C 583 (by decide) dL_law_578 (fun _ => ?_) (fun c_ => absurd hc_578 c_)
  refine lq_iload C 1 rfl dL_law_583 ?_
  refine lq_if_ne C 600 (by decide) dL_law_585 (fun c_ => ?_) (fun c_ => ?_)
  · have h := h.1 c_
    refine lq_goto C 3491 (by decide) dL_law_600 ?_
    exact lq_sub [2, 3, 4, 5, 6] rfl (lz_tail C hR x4 (cd + mc2) (dd + ms3) S_1 v_5 f_5 g_5 h)
  · have h := h.2 c_
    refine lq_aload_n C (i := 3) rfl 3 rfl dL_law_588 ?_
    refine lq_iconst C (x := nI 0) rfl dL_law_589 ?_
    obtain ⟨hc_590, h⟩ := h
    refine lq_laloadR C hc_590 dL_law_590 ?_
    refine lq_iload C 0 rfl dL_law_591 ?_
    refine lq_i2l C dL_law_593 ?_
    refine lq_lcmp C dL_law_594 ?_
    obtain ⟨hc_595, h⟩ := h
    refine lq_if_eqC C 600 (by decide) dL_law_595 (fun _ => ?_) (fun c_ => absurd hc_595 c_)
    refine lq_goto C 3491 (by decide) dL_law_600 ?_
    exact lq_sub [2, 3, 4, 5, 6] rfl (lz_tail C hR x4 (cd + mc2) (dd + ms3) S_1 v_5 f_5 g_5 h)
set_option maxHeartbeats 1000000 in
set_option maxRecDepth 20000 in
theorem lz_c7 (C : lC p l s m meth c b L xs D Y tp dp) (hL : L < 2 ^ 31) {R : Int32 → Nat → Nat → cS → (Nat → Int32) → (Nat → Nat → Int32) → (Nat → Nat → Int64) → Prop} (hR : ∀ (x4 : Int32) (cd dd : Nat) (S : cS) (v : Nat → Int32) (f : Nat → Nat → Int32) (g : Nat → Nat → Int64), R x4 cd dd S v f g → lG p l e s m below meth c b D Y cd dd 23 [(4, .int x4), (3, .ref out), (2, .ref (a 0)), (1, .ref x), (0, .ref b)] [] S a v f g) (x4 : Int32) (cd dd : Nat) (S : cS) (v : Nat → Int32) (f : Nat → Nat → Int32) (g : Nat → Nat → Int64) (h : lw_c7 R xs L dp x out x4 cd dd S v f g) : lG p l e s m below meth c b D Y cd dd 603 [(4, .int x4), (3, .ref out), (2, .ref (a 0)), (1, .ref x), (0, .ref b)] [] S a v f g := by
  have hlt := C.2.2.2.2.2.2.2.2.2.2.1
  unfold lw_c7 at h
  refine lq_aload_n C (i := 1) rfl 3 rfl dL_law_603 ?_
  refine lq_aload_n C (i := 0) rfl 4 rfl dL_law_604 ?_
  refine lq_iload C 0 rfl dL_law_605 ?_
  refine lq_iconst C (x := nI 1) rfl dL_law_607 ?_
  refine lq_iadd C dL_law_608 ?_
  obtain ⟨hc_609, h⟩ := h
  refine lq_sldR C hL hc_609 dL_law_609 ?_
  refine lq_aload_n C (i := 3) rfl 1 rfl dL_law_610 ?_
  obtain ⟨mc2, ms3, hm_, h⟩ := h
  refine lq_callW C (tw_L_delete l hlt mc2 ms3 x ((xs ((x4 + ((nI 1)))).toNatClampNeg)) out S dp h) lH_217 rfl rfl ⟨by decide, by decide⟩ hm_ rfl (Nat.le_of_ble_eq_true rfl) dL_law_611 (fun r_1 S_1 h => ?_)
  refine lq_istore C (lv' := [(5, .int r_1), (4, .int x4), (3, .ref out), (2, .ref (a 0)), (1, .ref x), (0, .ref b)]) (by decide) rfl dL_law_614 ?_
  refine lq_aload_n C (i := 2) rfl 3 rfl dL_law_616 ?_
  refine lq_aload_n C (i := 0) rfl 5 rfl dL_law_617 ?_
  refine lq_iload C 1 rfl dL_law_618 ?_
  refine lq_iconst C (x := nI 1) rfl dL_law_620 ?_
  refine lq_iadd C dL_law_621 ?_
  obtain ⟨hc_622, h⟩ := h
  refine lq_sldR C hL hc_622 dL_law_622 ?_
  obtain ⟨hc_623, h⟩ := h
  refine lq_callMW C (s_delete l ((xs ((x4 + ((nI 1)))).toNatClampNeg)) v f g h) lM_219 rfl rfl ⟨by decide, by decide⟩ hc_623 rfl (Nat.le_of_ble_eq_true rfl) dL_law_623 (fun r_4 v_4 f_4 g_4 h => ?_)
  refine lq_istore C (lv' := [(6, .int r_4), (5, .int r_1), (4, .int x4), (3, .ref out), (2, .ref (a 0)), (1, .ref x), (0, .ref b)]) (by decide) rfl dL_law_626 ?_
  refine lq_aload_n C (i := 2) rfl 4 rfl dL_law_628 ?_
  obtain ⟨hc_629, h⟩ := h
  refine lq_callMW C (s_thrown l  v_4 f_4 g_4 h) lM_192 rfl rfl ⟨by decide, by decide⟩ hc_629 rfl (Nat.le_of_ble_eq_true rfl) dL_law_629 (fun r_5 v_5 f_5 g_5 h => ?_)
  refine lq_iload C 1 rfl dL_law_632 ?_
  obtain ⟨hc_634, h⟩ := h
  refine lq_icmp_eq C 639 (by decide) dL_law_634 (fun _ => ?_) (fun c_ => absurd hc_634 c_)
  refine lq_iload C 1 rfl dL_law_639 ?_
  refine lq_if_ne C 663 (by decide) dL_law_641 (fun c_ => ?_) (fun c_ => ?_)
  · have h := h.1 c_
    refine lq_goto C 3491 (by decide) dL_law_663 ?_
    exact lq_sub [2, 3, 4, 5, 6] rfl (lz_tail C hR x4 (cd + mc2) (dd + ms3) S_1 v_5 f_5 g_5 h)
  · have h := h.2 c_
    refine lq_aload_n C (i := 3) rfl 3 rfl dL_law_644 ?_
    refine lq_iconst C (x := nI 0) rfl dL_law_645 ?_
    obtain ⟨hc_646, h⟩ := h
    refine lq_laloadR C hc_646 dL_law_646 ?_
    refine lq_iload C 0 rfl dL_law_647 ?_
    refine lq_if_eq C 656 (by decide) dL_law_649 (fun c_ => ?_) (fun c_ => ?_)
    · have h := h.1 c_
      refine lq_lconst C (x := 0) rfl dL_law_656 ?_
      refine lq_lcmp C dL_law_657 ?_
      obtain ⟨hc_658, h⟩ := h
      refine lq_if_eqC C 663 (by decide) dL_law_658 (fun _ => ?_) (fun c_ => absurd hc_658 c_)
      refine lq_goto C 3491 (by decide) dL_law_663 ?_
      exact lq_sub [2, 3, 4, 5, 6] rfl (lz_tail C hR x4 (cd + mc2) (dd + ms3) S_1 v_5 f_5 g_5 h)
    · have h := h.2 c_
      refine lq_lconst C (x := 1) rfl dL_law_652 ?_
      refine lq_goto C 657 (by decide) dL_law_653 ?_
      refine lq_lcmp C dL_law_657 ?_
      obtain ⟨hc_658, h⟩ := h
      refine lq_if_eqC C 663 (by decide) dL_law_658 (fun _ => ?_) (fun c_ => absurd hc_658 c_)
      refine lq_goto C 3491 (by decide) dL_law_663 ?_
      exact lq_sub [2, 3, 4, 5, 6] rfl (lz_tail C hR x4 (cd + mc2) (dd + ms3) S_1 v_5 f_5 g_5 h)
set_option maxHeartbeats 1000000 in
set_option maxRecDepth 20000 in
theorem lz_c8 (C : lC p l s m meth c b L xs D Y tp dp) (hL : L < 2 ^ 31) {R : Int32 → Nat → Nat → cS → (Nat → Int32) → (Nat → Nat → Int32) → (Nat → Nat → Int64) → Prop} (hR : ∀ (x4 : Int32) (cd dd : Nat) (S : cS) (v : Nat → Int32) (f : Nat → Nat → Int32) (g : Nat → Nat → Int64), R x4 cd dd S v f g → lG p l e s m below meth c b D Y cd dd 23 [(4, .int x4), (3, .ref out), (2, .ref (a 0)), (1, .ref x), (0, .ref b)] [] S a v f g) (x4 : Int32) (cd dd : Nat) (S : cS) (v : Nat → Int32) (f : Nat → Nat → Int32) (g : Nat → Nat → Int64) (h : lw_c8 R xs L dp x out x4 cd dd S v f g) : lG p l e s m below meth c b D Y cd dd 666 [(4, .int x4), (3, .ref out), (2, .ref (a 0)), (1, .ref x), (0, .ref b)] [] S a v f g := by
  have hlt := C.2.2.2.2.2.2.2.2.2.2.1
  unfold lw_c8 at h
  refine lq_aload_n C (i := 1) rfl 3 rfl dL_law_666 ?_
  refine lq_aload_n C (i := 3) rfl 1 rfl dL_law_667 ?_
  obtain ⟨mc2, ms3, hm_, h⟩ := h
  refine lq_callW C (tw_L_flush l hlt mc2 ms3 x out S dp h) lH_220 rfl rfl ⟨by decide, by decide⟩ hm_ rfl (Nat.le_of_ble_eq_true rfl) dL_law_668 (fun r_1 S_1 h => ?_)
  refine lq_istore C (lv' := [(5, .int r_1), (4, .int x4), (3, .ref out), (2, .ref (a 0)), (1, .ref x), (0, .ref b)]) (by decide) rfl dL_law_671 ?_
  refine lq_aload_n C (i := 2) rfl 3 rfl dL_law_673 ?_
  obtain ⟨hc_674, h⟩ := h
  refine lq_callMW C (s_flush l  v f g h) lM_222 rfl rfl ⟨by decide, by decide⟩ hc_674 rfl (Nat.le_of_ble_eq_true rfl) dL_law_674 (fun r_4 v_4 f_4 g_4 h => ?_)
  refine lq_istore C (lv' := [(6, .int r_4), (5, .int r_1), (4, .int x4), (3, .ref out), (2, .ref (a 0)), (1, .ref x), (0, .ref b)]) (by decide) rfl dL_law_677 ?_
  refine lq_aload_n C (i := 2) rfl 4 rfl dL_law_679 ?_
  obtain ⟨hc_680, h⟩ := h
  refine lq_callMW C (s_thrown l  v_4 f_4 g_4 h) lM_192 rfl rfl ⟨by decide, by decide⟩ hc_680 rfl (Nat.le_of_ble_eq_true rfl) dL_law_680 (fun r_5 v_5 f_5 g_5 h => ?_)
  refine lq_iload C 1 rfl dL_law_683 ?_
  obtain ⟨hc_685, h⟩ := h
  refine lq_icmp_eq C 690 (by decide) dL_law_685 (fun _ => ?_) (fun c_ => absurd hc_685 c_)
  refine lq_iload C 1 rfl dL_law_690 ?_
  refine lq_if_ne C 707 (by decide) dL_law_692 (fun c_ => ?_) (fun c_ => ?_)
  · have h := h.1 c_
    refine lq_goto C 3491 (by decide) dL_law_707 ?_
    exact lq_sub [2, 3, 4, 5, 6] rfl (lz_tail C hR x4 (cd + mc2) (dd + ms3) S_1 v_5 f_5 g_5 h)
  · have h := h.2 c_
    refine lq_aload_n C (i := 3) rfl 3 rfl dL_law_695 ?_
    refine lq_iconst C (x := nI 0) rfl dL_law_696 ?_
    obtain ⟨hc_697, h⟩ := h
    refine lq_laloadR C hc_697 dL_law_697 ?_
    refine lq_iload C 0 rfl dL_law_698 ?_
    refine lq_i2l C dL_law_700 ?_
    refine lq_lcmp C dL_law_701 ?_
    obtain ⟨hc_702, h⟩ := h
    refine lq_if_eqC C 707 (by decide) dL_law_702 (fun _ => ?_) (fun c_ => absurd hc_702 c_)
    refine lq_goto C 3491 (by decide) dL_law_707 ?_
    exact lq_sub [2, 3, 4, 5, 6] rfl (lz_tail C hR x4 (cd + mc2) (dd + ms3) S_1 v_5 f_5 g_5 h)
set_option maxHeartbeats 1000000 in
set_option maxRecDepth 20000 in
theorem lz_c9 (C : lC p l s m meth c b L xs D Y tp dp) (hL : L < 2 ^ 31) {R : Int32 → Nat → Nat → cS → (Nat → Int32) → (Nat → Nat → Int32) → (Nat → Nat → Int64) → Prop} (hR : ∀ (x4 : Int32) (cd dd : Nat) (S : cS) (v : Nat → Int32) (f : Nat → Nat → Int32) (g : Nat → Nat → Int64), R x4 cd dd S v f g → lG p l e s m below meth c b D Y cd dd 23 [(4, .int x4), (3, .ref out), (2, .ref (a 0)), (1, .ref x), (0, .ref b)] [] S a v f g) (x4 : Int32) (cd dd : Nat) (S : cS) (v : Nat → Int32) (f : Nat → Nat → Int32) (g : Nat → Nat → Int64) (h : lw_c9 R xs L dp x out x4 cd dd S v f g) : lG p l e s m below meth c b D Y cd dd 710 [(4, .int x4), (3, .ref out), (2, .ref (a 0)), (1, .ref x), (0, .ref b)] [] S a v f g := by
  have hlt := C.2.2.2.2.2.2.2.2.2.2.1
  unfold lw_c9 at h
  refine lq_aload_n C (i := 1) rfl 3 rfl dL_law_710 ?_
  refine lq_aload_n C (i := 3) rfl 1 rfl dL_law_711 ?_
  obtain ⟨mc2, ms3, hm_, h⟩ := h
  refine lq_callW C (tw_L_due l hlt mc2 ms3 x out S dp h) lH_223 rfl rfl ⟨by decide, by decide⟩ hm_ rfl (Nat.le_of_ble_eq_true rfl) dL_law_712 (fun r_1 S_1 h => ?_)
  refine lq_istore C (lv' := [(5, .int r_1), (4, .int x4), (3, .ref out), (2, .ref (a 0)), (1, .ref x), (0, .ref b)]) (by decide) rfl dL_law_715 ?_
  refine lq_aload_n C (i := 2) rfl 3 rfl dL_law_717 ?_
  obtain ⟨hc_718, h⟩ := h
  refine lq_callMW C (s_due l  v f g h) lM_225 rfl rfl ⟨by decide, by decide⟩ hc_718 rfl (Nat.le_of_ble_eq_true rfl) dL_law_718 (fun r_4 v_4 f_4 g_4 h => ?_)
  refine lq_istore C (lv' := [(6, .int r_4), (5, .int r_1), (4, .int x4), (3, .ref out), (2, .ref (a 0)), (1, .ref x), (0, .ref b)]) (by decide) rfl dL_law_721 ?_
  refine lq_aload_n C (i := 2) rfl 4 rfl dL_law_723 ?_
  obtain ⟨hc_724, h⟩ := h
  refine lq_callMW C (s_thrown l  v_4 f_4 g_4 h) lM_192 rfl rfl ⟨by decide, by decide⟩ hc_724 rfl (Nat.le_of_ble_eq_true rfl) dL_law_724 (fun r_5 v_5 f_5 g_5 h => ?_)
  refine lq_iload C 1 rfl dL_law_727 ?_
  obtain ⟨hc_729, h⟩ := h
  refine lq_icmp_eq C 734 (by decide) dL_law_729 (fun _ => ?_) (fun c_ => absurd hc_729 c_)
  refine lq_iload C 1 rfl dL_law_734 ?_
  refine lq_if_ne C 751 (by decide) dL_law_736 (fun c_ => ?_) (fun c_ => ?_)
  · have h := h.1 c_
    refine lq_goto C 3491 (by decide) dL_law_751 ?_
    exact lq_sub [2, 3, 4, 5, 6] rfl (lz_tail C hR x4 (cd + mc2) (dd + ms3) S_1 v_5 f_5 g_5 h)
  · have h := h.2 c_
    refine lq_aload_n C (i := 3) rfl 3 rfl dL_law_739 ?_
    refine lq_iconst C (x := nI 0) rfl dL_law_740 ?_
    obtain ⟨hc_741, h⟩ := h
    refine lq_laloadR C hc_741 dL_law_741 ?_
    refine lq_iload C 0 rfl dL_law_742 ?_
    refine lq_i2l C dL_law_744 ?_
    refine lq_lcmp C dL_law_745 ?_
    obtain ⟨hc_746, h⟩ := h
    refine lq_if_eqC C 751 (by decide) dL_law_746 (fun _ => ?_) (fun c_ => absurd hc_746 c_)
    refine lq_goto C 3491 (by decide) dL_law_751 ?_
    exact lq_sub [2, 3, 4, 5, 6] rfl (lz_tail C hR x4 (cd + mc2) (dd + ms3) S_1 v_5 f_5 g_5 h)
set_option maxHeartbeats 1000000 in
set_option maxRecDepth 20000 in
theorem lz_c10 (C : lC p l s m meth c b L xs D Y tp dp) (hL : L < 2 ^ 31) {R : Int32 → Nat → Nat → cS → (Nat → Int32) → (Nat → Nat → Int32) → (Nat → Nat → Int64) → Prop} (hR : ∀ (x4 : Int32) (cd dd : Nat) (S : cS) (v : Nat → Int32) (f : Nat → Nat → Int32) (g : Nat → Nat → Int64), R x4 cd dd S v f g → lG p l e s m below meth c b D Y cd dd 23 [(4, .int x4), (3, .ref out), (2, .ref (a 0)), (1, .ref x), (0, .ref b)] [] S a v f g) (x4 : Int32) (cd dd : Nat) (S : cS) (v : Nat → Int32) (f : Nat → Nat → Int32) (g : Nat → Nat → Int64) (h : lw_c10 R xs L dp x out x4 cd dd S v f g) : lG p l e s m below meth c b D Y cd dd 754 [(4, .int x4), (3, .ref out), (2, .ref (a 0)), (1, .ref x), (0, .ref b)] [] S a v f g := by
  have hlt := C.2.2.2.2.2.2.2.2.2.2.1
  unfold lw_c10 at h
  refine lq_aload_n C (i := 1) rfl 3 rfl dL_law_754 ?_
  refine lq_aload_n C (i := 3) rfl 1 rfl dL_law_755 ?_
  obtain ⟨mc2, ms3, hm_, h⟩ := h
  refine lq_callW C (tw_L_merge l hlt mc2 ms3 x out S dp h) lH_226 rfl rfl ⟨by decide, by decide⟩ hm_ rfl (Nat.le_of_ble_eq_true rfl) dL_law_756 (fun r_1 S_1 h => ?_)
  refine lq_istore C (lv' := [(5, .int r_1), (4, .int x4), (3, .ref out), (2, .ref (a 0)), (1, .ref x), (0, .ref b)]) (by decide) rfl dL_law_759 ?_
  refine lq_aload_n C (i := 2) rfl 3 rfl dL_law_761 ?_
  obtain ⟨hc_762, h⟩ := h
  refine lq_callMW C (s_merge l  v f g h) lM_228 rfl rfl ⟨by decide, by decide⟩ hc_762 rfl (Nat.le_of_ble_eq_true rfl) dL_law_762 (fun r_4 v_4 f_4 g_4 h => ?_)
  refine lq_istore C (lv' := [(6, .int r_4), (5, .int r_1), (4, .int x4), (3, .ref out), (2, .ref (a 0)), (1, .ref x), (0, .ref b)]) (by decide) rfl dL_law_765 ?_
  refine lq_aload_n C (i := 2) rfl 4 rfl dL_law_767 ?_
  obtain ⟨hc_768, h⟩ := h
  refine lq_callMW C (s_thrown l  v_4 f_4 g_4 h) lM_192 rfl rfl ⟨by decide, by decide⟩ hc_768 rfl (Nat.le_of_ble_eq_true rfl) dL_law_768 (fun r_5 v_5 f_5 g_5 h => ?_)
  refine lq_iload C 1 rfl dL_law_771 ?_
  obtain ⟨hc_773, h⟩ := h
  refine lq_icmp_eq C 778 (by decide) dL_law_773 (fun _ => ?_) (fun c_ => absurd hc_773 c_)
  refine lq_iload C 1 rfl dL_law_778 ?_
  refine lq_if_ne C 795 (by decide) dL_law_780 (fun c_ => ?_) (fun c_ => ?_)
  · have h := h.1 c_
    refine lq_goto C 3491 (by decide) dL_law_795 ?_
    exact lq_sub [2, 3, 4, 5, 6] rfl (lz_tail C hR x4 (cd + mc2) (dd + ms3) S_1 v_5 f_5 g_5 h)
  · have h := h.2 c_
    refine lq_aload_n C (i := 3) rfl 3 rfl dL_law_783 ?_
    refine lq_iconst C (x := nI 0) rfl dL_law_784 ?_
    obtain ⟨hc_785, h⟩ := h
    refine lq_laloadR C hc_785 dL_law_785 ?_
    refine lq_iload C 0 rfl dL_law_786 ?_
    refine lq_i2l C dL_law_788 ?_
    refine lq_lcmp C dL_law_789 ?_
    obtain ⟨hc_790, h⟩ := h
    refine lq_if_eqC C 795 (by decide) dL_law_790 (fun _ => ?_) (fun c_ => absurd hc_790 c_)
    refine lq_goto C 3491 (by decide) dL_law_795 ?_
    exact lq_sub [2, 3, 4, 5, 6] rfl (lz_tail C hR x4 (cd + mc2) (dd + ms3) S_1 v_5 f_5 g_5 h)
set_option maxHeartbeats 1000000 in
set_option maxRecDepth 20000 in
theorem lz_c11 (C : lC p l s m meth c b L xs D Y tp dp) (hL : L < 2 ^ 31) {R : Int32 → Nat → Nat → cS → (Nat → Int32) → (Nat → Nat → Int32) → (Nat → Nat → Int64) → Prop} (hR : ∀ (x4 : Int32) (cd dd : Nat) (S : cS) (v : Nat → Int32) (f : Nat → Nat → Int32) (g : Nat → Nat → Int64), R x4 cd dd S v f g → lG p l e s m below meth c b D Y cd dd 23 [(4, .int x4), (3, .ref out), (2, .ref (a 0)), (1, .ref x), (0, .ref b)] [] S a v f g) (x4 : Int32) (cd dd : Nat) (S : cS) (v : Nat → Int32) (f : Nat → Nat → Int32) (g : Nat → Nat → Int64) (h : lw_c11 R xs L dp x out x4 cd dd S v f g) : lG p l e s m below meth c b D Y cd dd 798 [(4, .int x4), (3, .ref out), (2, .ref (a 0)), (1, .ref x), (0, .ref b)] [] S a v f g := by
  have hlt := C.2.2.2.2.2.2.2.2.2.2.1
  unfold lw_c11 at h
  refine lq_aload_n C (i := 1) rfl 3 rfl dL_law_798 ?_
  refine lq_aload_n C (i := 3) rfl 1 rfl dL_law_799 ?_
  obtain ⟨mc2, ms3, hm_, h⟩ := h
  refine lq_callW C (tw_L_step l hlt mc2 ms3 x out S dp h) lH_229 rfl rfl ⟨by decide, by decide⟩ hm_ rfl (Nat.le_of_ble_eq_true rfl) dL_law_800 (fun r_1 S_1 h => ?_)
  refine lq_istore C (lv' := [(5, .int r_1), (4, .int x4), (3, .ref out), (2, .ref (a 0)), (1, .ref x), (0, .ref b)]) (by decide) rfl dL_law_803 ?_
  refine lq_aload_n C (i := 2) rfl 3 rfl dL_law_805 ?_
  obtain ⟨hc_806, h⟩ := h
  refine lq_callMW C (s_step l  v f g h) lM_231 rfl rfl ⟨by decide, by decide⟩ hc_806 rfl (Nat.le_of_ble_eq_true rfl) dL_law_806 (fun r_4 v_4 f_4 g_4 h => ?_)
  refine lq_istore C (lv' := [(6, .int r_4), (5, .int r_1), (4, .int x4), (3, .ref out), (2, .ref (a 0)), (1, .ref x), (0, .ref b)]) (by decide) rfl dL_law_809 ?_
  refine lq_aload_n C (i := 2) rfl 4 rfl dL_law_811 ?_
  obtain ⟨hc_812, h⟩ := h
  refine lq_callMW C (s_thrown l  v_4 f_4 g_4 h) lM_192 rfl rfl ⟨by decide, by decide⟩ hc_812 rfl (Nat.le_of_ble_eq_true rfl) dL_law_812 (fun r_5 v_5 f_5 g_5 h => ?_)
  refine lq_iload C 1 rfl dL_law_815 ?_
  obtain ⟨hc_817, h⟩ := h
  refine lq_icmp_eq C 822 (by decide) dL_law_817 (fun _ => ?_) (fun c_ => absurd hc_817 c_)
  refine lq_iload C 1 rfl dL_law_822 ?_
  refine lq_if_ne C 839 (by decide) dL_law_824 (fun c_ => ?_) (fun c_ => ?_)
  · have h := h.1 c_
    refine lq_goto C 3491 (by decide) dL_law_839 ?_
    exact lq_sub [2, 3, 4, 5, 6] rfl (lz_tail C hR x4 (cd + mc2) (dd + ms3) S_1 v_5 f_5 g_5 h)
  · have h := h.2 c_
    refine lq_aload_n C (i := 3) rfl 3 rfl dL_law_827 ?_
    refine lq_iconst C (x := nI 0) rfl dL_law_828 ?_
    obtain ⟨hc_829, h⟩ := h
    refine lq_laloadR C hc_829 dL_law_829 ?_
    refine lq_iload C 0 rfl dL_law_830 ?_
    refine lq_i2l C dL_law_832 ?_
    refine lq_lcmp C dL_law_833 ?_
    obtain ⟨hc_834, h⟩ := h
    refine lq_if_eqC C 839 (by decide) dL_law_834 (fun _ => ?_) (fun c_ => absurd hc_834 c_)
    refine lq_goto C 3491 (by decide) dL_law_839 ?_
    exact lq_sub [2, 3, 4, 5, 6] rfl (lz_tail C hR x4 (cd + mc2) (dd + ms3) S_1 v_5 f_5 g_5 h)
set_option maxHeartbeats 1000000 in
set_option maxRecDepth 20000 in
theorem lz_c12 (C : lC p l s m meth c b L xs D Y tp dp) (hL : L < 2 ^ 31) {R : Int32 → Nat → Nat → cS → (Nat → Int32) → (Nat → Nat → Int32) → (Nat → Nat → Int64) → Prop} (hR : ∀ (x4 : Int32) (cd dd : Nat) (S : cS) (v : Nat → Int32) (f : Nat → Nat → Int32) (g : Nat → Nat → Int64), R x4 cd dd S v f g → lG p l e s m below meth c b D Y cd dd 23 [(4, .int x4), (3, .ref out), (2, .ref (a 0)), (1, .ref x), (0, .ref b)] [] S a v f g) (x4 : Int32) (cd dd : Nat) (S : cS) (v : Nat → Int32) (f : Nat → Nat → Int32) (g : Nat → Nat → Int64) (h : lw_c12 R xs L dp x out x4 cd dd S v f g) : lG p l e s m below meth c b D Y cd dd 842 [(4, .int x4), (3, .ref out), (2, .ref (a 0)), (1, .ref x), (0, .ref b)] [] S a v f g := by
  have hlt := C.2.2.2.2.2.2.2.2.2.2.1
  unfold lw_c12 at h
  refine lq_aload_n C (i := 1) rfl 3 rfl dL_law_842 ?_
  refine lq_aload_n C (i := 3) rfl 1 rfl dL_law_843 ?_
  obtain ⟨mc2, ms3, hm_, h⟩ := h
  refine lq_callW C (tw_L_giveUp l hlt mc2 ms3 x out S dp h) lH_232 rfl rfl ⟨by decide, by decide⟩ hm_ rfl (Nat.le_of_ble_eq_true rfl) dL_law_844 (fun r_1 S_1 h => ?_)
  refine lq_istore C (lv' := [(5, .int r_1), (4, .int x4), (3, .ref out), (2, .ref (a 0)), (1, .ref x), (0, .ref b)]) (by decide) rfl dL_law_847 ?_
  refine lq_aload_n C (i := 2) rfl 3 rfl dL_law_849 ?_
  obtain ⟨hc_850, h⟩ := h
  refine lq_callMW C (s_giveUp l  v f g h) lM_234 rfl rfl ⟨by decide, by decide⟩ hc_850 rfl (Nat.le_of_ble_eq_true rfl) dL_law_850 (fun r_4 v_4 f_4 g_4 h => ?_)
  refine lq_istore C (lv' := [(6, .int r_4), (5, .int r_1), (4, .int x4), (3, .ref out), (2, .ref (a 0)), (1, .ref x), (0, .ref b)]) (by decide) rfl dL_law_853 ?_
  refine lq_aload_n C (i := 2) rfl 4 rfl dL_law_855 ?_
  obtain ⟨hc_856, h⟩ := h
  refine lq_callMW C (s_thrown l  v_4 f_4 g_4 h) lM_192 rfl rfl ⟨by decide, by decide⟩ hc_856 rfl (Nat.le_of_ble_eq_true rfl) dL_law_856 (fun r_5 v_5 f_5 g_5 h => ?_)
  refine lq_iload C 1 rfl dL_law_859 ?_
  obtain ⟨hc_861, h⟩ := h
  refine lq_icmp_eq C 866 (by decide) dL_law_861 (fun _ => ?_) (fun c_ => absurd hc_861 c_)
  refine lq_iload C 1 rfl dL_law_866 ?_
  refine lq_if_ne C 883 (by decide) dL_law_868 (fun c_ => ?_) (fun c_ => ?_)
  · have h := h.1 c_
    refine lq_goto C 3491 (by decide) dL_law_883 ?_
    exact lq_sub [2, 3, 4, 5, 6] rfl (lz_tail C hR x4 (cd + mc2) (dd + ms3) S_1 v_5 f_5 g_5 h)
  · have h := h.2 c_
    refine lq_aload_n C (i := 3) rfl 3 rfl dL_law_871 ?_
    refine lq_iconst C (x := nI 0) rfl dL_law_872 ?_
    obtain ⟨hc_873, h⟩ := h
    refine lq_laloadR C hc_873 dL_law_873 ?_
    refine lq_iload C 0 rfl dL_law_874 ?_
    refine lq_i2l C dL_law_876 ?_
    refine lq_lcmp C dL_law_877 ?_
    obtain ⟨hc_878, h⟩ := h
    refine lq_if_eqC C 883 (by decide) dL_law_878 (fun _ => ?_) (fun c_ => absurd hc_878 c_)
    refine lq_goto C 3491 (by decide) dL_law_883 ?_
    exact lq_sub [2, 3, 4, 5, 6] rfl (lz_tail C hR x4 (cd + mc2) (dd + ms3) S_1 v_5 f_5 g_5 h)
set_option maxHeartbeats 1000000 in
set_option maxRecDepth 20000 in
theorem lz_c13 (C : lC p l s m meth c b L xs D Y tp dp) (hL : L < 2 ^ 31) {R : Int32 → Nat → Nat → cS → (Nat → Int32) → (Nat → Nat → Int32) → (Nat → Nat → Int64) → Prop} (hR : ∀ (x4 : Int32) (cd dd : Nat) (S : cS) (v : Nat → Int32) (f : Nat → Nat → Int32) (g : Nat → Nat → Int64), R x4 cd dd S v f g → lG p l e s m below meth c b D Y cd dd 23 [(4, .int x4), (3, .ref out), (2, .ref (a 0)), (1, .ref x), (0, .ref b)] [] S a v f g) (x4 : Int32) (cd dd : Nat) (S : cS) (v : Nat → Int32) (f : Nat → Nat → Int32) (g : Nat → Nat → Int64) (h : lw_c13 R xs L dp x out x4 cd dd S v f g) : lG p l e s m below meth c b D Y cd dd 886 [(4, .int x4), (3, .ref out), (2, .ref (a 0)), (1, .ref x), (0, .ref b)] [] S a v f g := by
  have hlt := C.2.2.2.2.2.2.2.2.2.2.1
  unfold lw_c13 at h
  refine lq_aload_n C (i := 1) rfl 3 rfl dL_law_886 ?_
  refine lq_aload_n C (i := 3) rfl 1 rfl dL_law_887 ?_
  obtain ⟨mc2, ms3, hm_, h⟩ := h
  refine lq_callW C (tw_L_prepare l hlt mc2 ms3 x out S dp h) lH_235 rfl rfl ⟨by decide, by decide⟩ hm_ rfl (Nat.le_of_ble_eq_true rfl) dL_law_888 (fun r_1 S_1 h => ?_)
  refine lq_istore C (lv' := [(5, .int r_1), (4, .int x4), (3, .ref out), (2, .ref (a 0)), (1, .ref x), (0, .ref b)]) (by decide) rfl dL_law_891 ?_
  refine lq_aload_n C (i := 2) rfl 3 rfl dL_law_893 ?_
  obtain ⟨hc_894, h⟩ := h
  refine lq_callMW C (s_prepare l  v f g h) lM_237 rfl rfl ⟨by decide, by decide⟩ hc_894 rfl (Nat.le_of_ble_eq_true rfl) dL_law_894 (fun r_4 v_4 f_4 g_4 h => ?_)
  refine lq_istore C (lv' := [(6, .int r_4), (5, .int r_1), (4, .int x4), (3, .ref out), (2, .ref (a 0)), (1, .ref x), (0, .ref b)]) (by decide) rfl dL_law_897 ?_
  refine lq_aload_n C (i := 2) rfl 4 rfl dL_law_899 ?_
  obtain ⟨hc_900, h⟩ := h
  refine lq_callMW C (s_thrown l  v_4 f_4 g_4 h) lM_192 rfl rfl ⟨by decide, by decide⟩ hc_900 rfl (Nat.le_of_ble_eq_true rfl) dL_law_900 (fun r_5 v_5 f_5 g_5 h => ?_)
  refine lq_iload C 1 rfl dL_law_903 ?_
  obtain ⟨hc_905, h⟩ := h
  refine lq_icmp_eq C 910 (by decide) dL_law_905 (fun _ => ?_) (fun c_ => absurd hc_905 c_)
  refine lq_iload C 1 rfl dL_law_910 ?_
  refine lq_if_ne C 927 (by decide) dL_law_912 (fun c_ => ?_) (fun c_ => ?_)
  · have h := h.1 c_
    refine lq_goto C 3491 (by decide) dL_law_927 ?_
    exact lq_sub [2, 3, 4, 5, 6] rfl (lz_tail C hR x4 (cd + mc2) (dd + ms3) S_1 v_5 f_5 g_5 h)
  · have h := h.2 c_
    refine lq_aload_n C (i := 3) rfl 3 rfl dL_law_915 ?_
    refine lq_iconst C (x := nI 0) rfl dL_law_916 ?_
    obtain ⟨hc_917, h⟩ := h
    refine lq_laloadR C hc_917 dL_law_917 ?_
    refine lq_iload C 0 rfl dL_law_918 ?_
    refine lq_i2l C dL_law_920 ?_
    refine lq_lcmp C dL_law_921 ?_
    obtain ⟨hc_922, h⟩ := h
    refine lq_if_eqC C 927 (by decide) dL_law_922 (fun _ => ?_) (fun c_ => absurd hc_922 c_)
    refine lq_goto C 3491 (by decide) dL_law_927 ?_
    exact lq_sub [2, 3, 4, 5, 6] rfl (lz_tail C hR x4 (cd + mc2) (dd + ms3) S_1 v_5 f_5 g_5 h)
set_option maxHeartbeats 1000000 in
set_option maxRecDepth 20000 in
theorem lz_c14 (C : lC p l s m meth c b L xs D Y tp dp) (hL : L < 2 ^ 31) {R : Int32 → Nat → Nat → cS → (Nat → Int32) → (Nat → Nat → Int32) → (Nat → Nat → Int64) → Prop} (hR : ∀ (x4 : Int32) (cd dd : Nat) (S : cS) (v : Nat → Int32) (f : Nat → Nat → Int32) (g : Nat → Nat → Int64), R x4 cd dd S v f g → lG p l e s m below meth c b D Y cd dd 23 [(4, .int x4), (3, .ref out), (2, .ref (a 0)), (1, .ref x), (0, .ref b)] [] S a v f g) (x4 : Int32) (cd dd : Nat) (S : cS) (v : Nat → Int32) (f : Nat → Nat → Int32) (g : Nat → Nat → Int64) (h : lw_c14 R xs L dp x out x4 cd dd S v f g) : lG p l e s m below meth c b D Y cd dd 930 [(4, .int x4), (3, .ref out), (2, .ref (a 0)), (1, .ref x), (0, .ref b)] [] S a v f g := by
  have hlt := C.2.2.2.2.2.2.2.2.2.2.1
  unfold lw_c14 at h
  refine lq_aload_n C (i := 1) rfl 3 rfl dL_law_930 ?_
  refine lq_aload_n C (i := 3) rfl 1 rfl dL_law_931 ?_
  obtain ⟨mc2, ms3, hm_, h⟩ := h
  refine lq_callW C (tw_L_finish l hlt mc2 ms3 x out S dp h) lH_238 rfl rfl ⟨by decide, by decide⟩ hm_ rfl (Nat.le_of_ble_eq_true rfl) dL_law_932 (fun r_1 S_1 h => ?_)
  refine lq_istore C (lv' := [(5, .int r_1), (4, .int x4), (3, .ref out), (2, .ref (a 0)), (1, .ref x), (0, .ref b)]) (by decide) rfl dL_law_935 ?_
  refine lq_aload_n C (i := 2) rfl 3 rfl dL_law_937 ?_
  obtain ⟨hc_938, h⟩ := h
  refine lq_callMW C (s_finish l  v f g h) lM_240 rfl rfl ⟨by decide, by decide⟩ hc_938 rfl (Nat.le_of_ble_eq_true rfl) dL_law_938 (fun r_4 v_4 f_4 g_4 h => ?_)
  refine lq_istore C (lv' := [(6, .int r_4), (5, .int r_1), (4, .int x4), (3, .ref out), (2, .ref (a 0)), (1, .ref x), (0, .ref b)]) (by decide) rfl dL_law_941 ?_
  refine lq_aload_n C (i := 2) rfl 4 rfl dL_law_943 ?_
  obtain ⟨hc_944, h⟩ := h
  refine lq_callMW C (s_thrown l  v_4 f_4 g_4 h) lM_192 rfl rfl ⟨by decide, by decide⟩ hc_944 rfl (Nat.le_of_ble_eq_true rfl) dL_law_944 (fun r_5 v_5 f_5 g_5 h => ?_)
  refine lq_iload C 1 rfl dL_law_947 ?_
  obtain ⟨hc_949, h⟩ := h
  refine lq_icmp_eq C 954 (by decide) dL_law_949 (fun _ => ?_) (fun c_ => absurd hc_949 c_)
  refine lq_iload C 1 rfl dL_law_954 ?_
  refine lq_if_ne C 971 (by decide) dL_law_956 (fun c_ => ?_) (fun c_ => ?_)
  · have h := h.1 c_
    refine lq_goto C 3491 (by decide) dL_law_971 ?_
    exact lq_sub [2, 3, 4, 5, 6] rfl (lz_tail C hR x4 (cd + mc2) (dd + ms3) S_1 v_5 f_5 g_5 h)
  · have h := h.2 c_
    refine lq_aload_n C (i := 3) rfl 3 rfl dL_law_959 ?_
    refine lq_iconst C (x := nI 0) rfl dL_law_960 ?_
    obtain ⟨hc_961, h⟩ := h
    refine lq_laloadR C hc_961 dL_law_961 ?_
    refine lq_iload C 0 rfl dL_law_962 ?_
    refine lq_i2l C dL_law_964 ?_
    refine lq_lcmp C dL_law_965 ?_
    obtain ⟨hc_966, h⟩ := h
    refine lq_if_eqC C 971 (by decide) dL_law_966 (fun _ => ?_) (fun c_ => absurd hc_966 c_)
    refine lq_goto C 3491 (by decide) dL_law_971 ?_
    exact lq_sub [2, 3, 4, 5, 6] rfl (lz_tail C hR x4 (cd + mc2) (dd + ms3) S_1 v_5 f_5 g_5 h)
set_option maxHeartbeats 1000000 in
set_option maxRecDepth 20000 in
theorem lz_c15 (C : lC p l s m meth c b L xs D Y tp dp) (hL : L < 2 ^ 31) {R : Int32 → Nat → Nat → cS → (Nat → Int32) → (Nat → Nat → Int32) → (Nat → Nat → Int64) → Prop} (hR : ∀ (x4 : Int32) (cd dd : Nat) (S : cS) (v : Nat → Int32) (f : Nat → Nat → Int32) (g : Nat → Nat → Int64), R x4 cd dd S v f g → lG p l e s m below meth c b D Y cd dd 23 [(4, .int x4), (3, .ref out), (2, .ref (a 0)), (1, .ref x), (0, .ref b)] [] S a v f g) (x4 : Int32) (cd dd : Nat) (S : cS) (v : Nat → Int32) (f : Nat → Nat → Int32) (g : Nat → Nat → Int64) (h : lw_c15 R xs L dp x out x4 cd dd S v f g) : lG p l e s m below meth c b D Y cd dd 974 [(4, .int x4), (3, .ref out), (2, .ref (a 0)), (1, .ref x), (0, .ref b)] [] S a v f g := by
  have hlt := C.2.2.2.2.2.2.2.2.2.2.1
  unfold lw_c15 at h
  refine lq_aload_n C (i := 1) rfl 3 rfl dL_law_974 ?_
  obtain ⟨mc2, ms3, hm_, h⟩ := h
  refine lq_callW C (tw_L_drop l hlt mc2 ms3 x S dp h) lH_241 rfl rfl ⟨by decide, by decide⟩ hm_ rfl (Nat.le_of_ble_eq_true rfl) dL_law_975 (fun r_1 S_1 h => ?_)
  refine lq_istore C (lv' := [(5, .int r_1), (4, .int x4), (3, .ref out), (2, .ref (a 0)), (1, .ref x), (0, .ref b)]) (by decide) rfl dL_law_978 ?_
  refine lq_aload_n C (i := 2) rfl 3 rfl dL_law_980 ?_
  obtain ⟨hc_981, h⟩ := h
  refine lq_callMvW C (s_drop l  v f g h) lM_244 rfl rfl ⟨by decide, by decide⟩ hc_981 rfl (Nat.le_of_ble_eq_true rfl) dL_law_981 (fun v_4 f_4 g_4 h => ?_)
  refine lq_aload_n C (i := 2) rfl 3 rfl dL_law_984 ?_
  obtain ⟨hc_985, h⟩ := h
  refine lq_callMW C (s_thrown l  v_4 f_4 g_4 h) lM_192 rfl rfl ⟨by decide, by decide⟩ hc_985 rfl (Nat.le_of_ble_eq_true rfl) dL_law_985 (fun r_5 v_5 f_5 g_5 h => ?_)
  refine lq_iload C 0 rfl dL_law_988 ?_
  obtain ⟨hc_990, h⟩ := h
  refine lq_icmp_eq C 995 (by decide) dL_law_990 (fun _ => ?_) (fun c_ => absurd hc_990 c_)
  refine lq_goto C 3491 (by decide) dL_law_995 ?_
  exact lq_sub [1, 2, 3, 4, 5] rfl (lz_tail C hR x4 (cd + mc2) (dd + ms3) S_1 v_5 f_5 g_5 h)
set_option maxHeartbeats 1000000 in
set_option maxRecDepth 20000 in
theorem lz_c16 (C : lC p l s m meth c b L xs D Y tp dp) (hL : L < 2 ^ 31) {R : Int32 → Nat → Nat → cS → (Nat → Int32) → (Nat → Nat → Int32) → (Nat → Nat → Int64) → Prop} (hR : ∀ (x4 : Int32) (cd dd : Nat) (S : cS) (v : Nat → Int32) (f : Nat → Nat → Int32) (g : Nat → Nat → Int64), R x4 cd dd S v f g → lG p l e s m below meth c b D Y cd dd 23 [(4, .int x4), (3, .ref out), (2, .ref (a 0)), (1, .ref x), (0, .ref b)] [] S a v f g) (x4 : Int32) (cd dd : Nat) (S : cS) (v : Nat → Int32) (f : Nat → Nat → Int32) (g : Nat → Nat → Int64) (h : lw_c16 R xs L dp x out x4 cd dd S v f g) : lG p l e s m below meth c b D Y cd dd 998 [(4, .int x4), (3, .ref out), (2, .ref (a 0)), (1, .ref x), (0, .ref b)] [] S a v f g := by
  have hlt := C.2.2.2.2.2.2.2.2.2.2.1
  unfold lw_c16 at h
  refine lq_aload_n C (i := 1) rfl 3 rfl dL_law_998 ?_
  refine lq_aload_n C (i := 0) rfl 4 rfl dL_law_999 ?_
  refine lq_iload C 0 rfl dL_law_1000 ?_
  refine lq_iconst C (x := nI 1) rfl dL_law_1002 ?_
  refine lq_iadd C dL_law_1003 ?_
  obtain ⟨hc_1004, h⟩ := h
  refine lq_sldR C hL hc_1004 dL_law_1004 ?_
  obtain ⟨mc2, ms3, hm_, h⟩ := h
  refine lq_callW C (tw_L_crashAt l hlt mc2 ms3 x ((xs ((x4 + ((nI 1)))).toNatClampNeg)) S dp h) lH_245 rfl rfl ⟨by decide, by decide⟩ hm_ rfl (Nat.le_of_ble_eq_true rfl) dL_law_1005 (fun r_1 S_1 h => ?_)
  refine lq_istore C (lv' := [(5, .int r_1), (4, .int x4), (3, .ref out), (2, .ref (a 0)), (1, .ref x), (0, .ref b)]) (by decide) rfl dL_law_1008 ?_
  refine lq_aload_n C (i := 2) rfl 3 rfl dL_law_1010 ?_
  refine lq_aload_n C (i := 0) rfl 5 rfl dL_law_1011 ?_
  refine lq_iload C 1 rfl dL_law_1012 ?_
  refine lq_iconst C (x := nI 1) rfl dL_law_1014 ?_
  refine lq_iadd C dL_law_1015 ?_
  obtain ⟨hc_1016, h⟩ := h
  refine lq_sldR C hL hc_1016 dL_law_1016 ?_
  obtain ⟨hc_1017, h⟩ := h
  refine lq_callMvW C (s_crashAt l ((xs ((x4 + ((nI 1)))).toNatClampNeg)) v f g h) lM_248 rfl rfl ⟨by decide, by decide⟩ hc_1017 rfl (Nat.le_of_ble_eq_true rfl) dL_law_1017 (fun v_4 f_4 g_4 h => ?_)
  refine lq_aload_n C (i := 2) rfl 3 rfl dL_law_1020 ?_
  obtain ⟨hc_1021, h⟩ := h
  refine lq_callMW C (s_thrown l  v_4 f_4 g_4 h) lM_192 rfl rfl ⟨by decide, by decide⟩ hc_1021 rfl (Nat.le_of_ble_eq_true rfl) dL_law_1021 (fun r_5 v_5 f_5 g_5 h => ?_)
  refine lq_iload C 0 rfl dL_law_1024 ?_
  obtain ⟨hc_1026, h⟩ := h
  refine lq_icmp_eq C 1031 (by decide) dL_law_1026 (fun _ => ?_) (fun c_ => absurd hc_1026 c_)
  refine lq_goto C 3491 (by decide) dL_law_1031 ?_
  exact lq_sub [1, 2, 3, 4, 5] rfl (lz_tail C hR x4 (cd + mc2) (dd + ms3) S_1 v_5 f_5 g_5 h)
set_option maxHeartbeats 1000000 in
set_option maxRecDepth 20000 in
theorem lz_c17 (C : lC p l s m meth c b L xs D Y tp dp) (hL : L < 2 ^ 31) {R : Int32 → Nat → Nat → cS → (Nat → Int32) → (Nat → Nat → Int32) → (Nat → Nat → Int64) → Prop} (hR : ∀ (x4 : Int32) (cd dd : Nat) (S : cS) (v : Nat → Int32) (f : Nat → Nat → Int32) (g : Nat → Nat → Int64), R x4 cd dd S v f g → lG p l e s m below meth c b D Y cd dd 23 [(4, .int x4), (3, .ref out), (2, .ref (a 0)), (1, .ref x), (0, .ref b)] [] S a v f g) (x4 : Int32) (cd dd : Nat) (S : cS) (v : Nat → Int32) (f : Nat → Nat → Int32) (g : Nat → Nat → Int64) (h : lw_c17 R xs L dp x out x4 cd dd S v f g) : lG p l e s m below meth c b D Y cd dd 1034 [(4, .int x4), (3, .ref out), (2, .ref (a 0)), (1, .ref x), (0, .ref b)] [] S a v f g := by
  have hlt := C.2.2.2.2.2.2.2.2.2.2.1
  unfold lw_c17 at h
  refine lq_aload_n C (i := 1) rfl 3 rfl dL_law_1034 ?_
  refine lq_aload_n C (i := 3) rfl 1 rfl dL_law_1035 ?_
  obtain ⟨mc2, ms3, hm_, h⟩ := h
  refine lq_callW C (tw_L_open l hlt mc2 ms3 x out S dp h) lH_249 rfl rfl ⟨by decide, by decide⟩ hm_ rfl (Nat.le_of_ble_eq_true rfl) dL_law_1036 (fun r_1 S_1 h => ?_)
  refine lq_istore C (lv' := [(5, .int r_1), (4, .int x4), (3, .ref out), (2, .ref (a 0)), (1, .ref x), (0, .ref b)]) (by decide) rfl dL_law_1039 ?_
  refine lq_aload_n C (i := 2) rfl 3 rfl dL_law_1041 ?_
  obtain ⟨hc_1042, h⟩ := h
  refine lq_callMW C (s_open l  v f g h) lM_251 rfl rfl ⟨by decide, by decide⟩ hc_1042 rfl (Nat.le_of_ble_eq_true rfl) dL_law_1042 (fun r_4 v_4 f_4 g_4 h => ?_)
  refine lq_istore C (lv' := [(6, .int r_4), (5, .int r_1), (4, .int x4), (3, .ref out), (2, .ref (a 0)), (1, .ref x), (0, .ref b)]) (by decide) rfl dL_law_1045 ?_
  refine lq_aload_n C (i := 2) rfl 4 rfl dL_law_1047 ?_
  obtain ⟨hc_1048, h⟩ := h
  refine lq_callMW C (s_thrown l  v_4 f_4 g_4 h) lM_192 rfl rfl ⟨by decide, by decide⟩ hc_1048 rfl (Nat.le_of_ble_eq_true rfl) dL_law_1048 (fun r_5 v_5 f_5 g_5 h => ?_)
  refine lq_iload C 1 rfl dL_law_1051 ?_
  obtain ⟨hc_1053, h⟩ := h
  refine lq_icmp_eq C 1058 (by decide) dL_law_1053 (fun _ => ?_) (fun c_ => absurd hc_1053 c_)
  refine lq_iload C 1 rfl dL_law_1058 ?_
  refine lq_if_ne C 1075 (by decide) dL_law_1060 (fun c_ => ?_) (fun c_ => ?_)
  · have h := h.1 c_
    refine lq_goto C 3491 (by decide) dL_law_1075 ?_
    exact lq_sub [2, 3, 4, 5, 6] rfl (lz_tail C hR x4 (cd + mc2) (dd + ms3) S_1 v_5 f_5 g_5 h)
  · have h := h.2 c_
    refine lq_aload_n C (i := 3) rfl 3 rfl dL_law_1063 ?_
    refine lq_iconst C (x := nI 0) rfl dL_law_1064 ?_
    obtain ⟨hc_1065, h⟩ := h
    refine lq_laloadR C hc_1065 dL_law_1065 ?_
    refine lq_iload C 0 rfl dL_law_1066 ?_
    refine lq_i2l C dL_law_1068 ?_
    refine lq_lcmp C dL_law_1069 ?_
    obtain ⟨hc_1070, h⟩ := h
    refine lq_if_eqC C 1075 (by decide) dL_law_1070 (fun _ => ?_) (fun c_ => absurd hc_1070 c_)
    refine lq_goto C 3491 (by decide) dL_law_1075 ?_
    exact lq_sub [2, 3, 4, 5, 6] rfl (lz_tail C hR x4 (cd + mc2) (dd + ms3) S_1 v_5 f_5 g_5 h)
set_option maxHeartbeats 1000000 in
set_option maxRecDepth 20000 in
theorem lz_c18 (C : lC p l s m meth c b L xs D Y tp dp) (hL : L < 2 ^ 31) {R : Int32 → Nat → Nat → cS → (Nat → Int32) → (Nat → Nat → Int32) → (Nat → Nat → Int64) → Prop} (hR : ∀ (x4 : Int32) (cd dd : Nat) (S : cS) (v : Nat → Int32) (f : Nat → Nat → Int32) (g : Nat → Nat → Int64), R x4 cd dd S v f g → lG p l e s m below meth c b D Y cd dd 23 [(4, .int x4), (3, .ref out), (2, .ref (a 0)), (1, .ref x), (0, .ref b)] [] S a v f g) (x4 : Int32) (cd dd : Nat) (S : cS) (v : Nat → Int32) (f : Nat → Nat → Int32) (g : Nat → Nat → Int64) (h : lw_c18 R xs L dp x out x4 cd dd S v f g) : lG p l e s m below meth c b D Y cd dd 1078 [(4, .int x4), (3, .ref out), (2, .ref (a 0)), (1, .ref x), (0, .ref b)] [] S a v f g := by
  have hlt := C.2.2.2.2.2.2.2.2.2.2.1
  unfold lw_c18 at h
  refine lq_aload_n C (i := 1) rfl 3 rfl dL_law_1078 ?_
  obtain ⟨hc_1079, h⟩ := h
  obtain ⟨hq_1079, h⟩ := h
  have hm_ := hq_1079
  refine lq_callC C (t_X11_isDown l x S dp h) cc_L_252 hc_1079.1 hc_1079.2 (by decide) rfl rfl ⟨by decide, by decide⟩ hm_ rfl (Nat.le_of_ble_eq_true rfl) dL_law_1079 (fun r_1 S_1 h => ?_)
  simp only [Nat.add_zero]
  refine lq_aload_n C (i := 2) rfl 2 rfl dL_law_1082 ?_
  obtain ⟨hc_1083, h⟩ := h
  refine lq_callMW C (s_isDown l  v f g h) lM_256 rfl rfl ⟨by decide, by decide⟩ hc_1083 rfl (Nat.le_of_ble_eq_true rfl) dL_law_1083 (fun r_4 v_4 f_4 g_4 h => ?_)
  obtain ⟨hc_1086, h⟩ := h
  refine lq_icmp_eq C 3491 (by decide) dL_law_1086 (fun _ => ?_) (fun c_ => absurd hc_1086 c_)
  exact lq_sub [0, 1, 2, 3, 4] rfl (lz_tail C hR x4 cd dd S_1 v_4 f_4 g_4 h)
set_option maxHeartbeats 1000000 in
set_option maxRecDepth 20000 in
theorem lz_c19 (C : lC p l s m meth c b L xs D Y tp dp) (hL : L < 2 ^ 31) {R : Int32 → Nat → Nat → cS → (Nat → Int32) → (Nat → Nat → Int32) → (Nat → Nat → Int64) → Prop} (hR : ∀ (x4 : Int32) (cd dd : Nat) (S : cS) (v : Nat → Int32) (f : Nat → Nat → Int32) (g : Nat → Nat → Int64), R x4 cd dd S v f g → lG p l e s m below meth c b D Y cd dd 23 [(4, .int x4), (3, .ref out), (2, .ref (a 0)), (1, .ref x), (0, .ref b)] [] S a v f g) (x4 : Int32) (cd dd : Nat) (S : cS) (v : Nat → Int32) (f : Nat → Nat → Int32) (g : Nat → Nat → Int64) (h : lw_c19 R xs L dp x out x4 cd dd S v f g) : lG p l e s m below meth c b D Y cd dd 1091 [(4, .int x4), (3, .ref out), (2, .ref (a 0)), (1, .ref x), (0, .ref b)] [] S a v f g := by
  have hlt := C.2.2.2.2.2.2.2.2.2.2.1
  unfold lw_c19 at h
  refine lq_aload_n C (i := 1) rfl 3 rfl dL_law_1091 ?_
  refine lq_aload_n C (i := 3) rfl 1 rfl dL_law_1092 ?_
  obtain ⟨mc2, ms3, hm_, h⟩ := h
  refine lq_callW C (tw_L_files l hlt mc2 ms3 x out S dp h) lH_257 rfl rfl ⟨by decide, by decide⟩ hm_ rfl (Nat.le_of_ble_eq_true rfl) dL_law_1093 (fun r_1 S_1 h => ?_)
  refine lq_istore C (lv' := [(5, .int r_1), (4, .int x4), (3, .ref out), (2, .ref (a 0)), (1, .ref x), (0, .ref b)]) (by decide) rfl dL_law_1096 ?_
  refine lq_aload_n C (i := 2) rfl 3 rfl dL_law_1098 ?_
  obtain ⟨hc_1099, h⟩ := h
  refine lq_callMW C (s_files l  v f g h) lM_259 rfl rfl ⟨by decide, by decide⟩ hc_1099 rfl (Nat.le_of_ble_eq_true rfl) dL_law_1099 (fun r_4 v_4 f_4 g_4 h => ?_)
  refine lq_istore C (lv' := [(6, .int r_4), (5, .int r_1), (4, .int x4), (3, .ref out), (2, .ref (a 0)), (1, .ref x), (0, .ref b)]) (by decide) rfl dL_law_1102 ?_
  refine lq_aload_n C (i := 2) rfl 4 rfl dL_law_1104 ?_
  obtain ⟨hc_1105, h⟩ := h
  refine lq_callMW C (s_thrown l  v_4 f_4 g_4 h) lM_192 rfl rfl ⟨by decide, by decide⟩ hc_1105 rfl (Nat.le_of_ble_eq_true rfl) dL_law_1105 (fun r_5 v_5 f_5 g_5 h => ?_)
  refine lq_iload C 1 rfl dL_law_1108 ?_
  obtain ⟨hc_1110, h⟩ := h
  refine lq_icmp_eq C 1115 (by decide) dL_law_1110 (fun _ => ?_) (fun c_ => absurd hc_1110 c_)
  refine lq_iload C 1 rfl dL_law_1115 ?_
  refine lq_if_ne C 1132 (by decide) dL_law_1117 (fun c_ => ?_) (fun c_ => ?_)
  · have h := h.1 c_
    refine lq_goto C 3491 (by decide) dL_law_1132 ?_
    exact lq_sub [2, 3, 4, 5, 6] rfl (lz_tail C hR x4 (cd + mc2) (dd + ms3) S_1 v_5 f_5 g_5 h)
  · have h := h.2 c_
    refine lq_aload_n C (i := 3) rfl 3 rfl dL_law_1120 ?_
    refine lq_iconst C (x := nI 0) rfl dL_law_1121 ?_
    obtain ⟨hc_1122, h⟩ := h
    refine lq_laloadR C hc_1122 dL_law_1122 ?_
    refine lq_iload C 0 rfl dL_law_1123 ?_
    refine lq_i2l C dL_law_1125 ?_
    refine lq_lcmp C dL_law_1126 ?_
    obtain ⟨hc_1127, h⟩ := h
    refine lq_if_eqC C 1132 (by decide) dL_law_1127 (fun _ => ?_) (fun c_ => absurd hc_1127 c_)
    refine lq_goto C 3491 (by decide) dL_law_1132 ?_
    exact lq_sub [2, 3, 4, 5, 6] rfl (lz_tail C hR x4 (cd + mc2) (dd + ms3) S_1 v_5 f_5 g_5 h)
set_option maxHeartbeats 1000000 in
set_option maxRecDepth 20000 in
theorem lz_c20 (C : lC p l s m meth c b L xs D Y tp dp) (hL : L < 2 ^ 31) {R : Int32 → Nat → Nat → cS → (Nat → Int32) → (Nat → Nat → Int32) → (Nat → Nat → Int64) → Prop} (hR : ∀ (x4 : Int32) (cd dd : Nat) (S : cS) (v : Nat → Int32) (f : Nat → Nat → Int32) (g : Nat → Nat → Int64), R x4 cd dd S v f g → lG p l e s m below meth c b D Y cd dd 23 [(4, .int x4), (3, .ref out), (2, .ref (a 0)), (1, .ref x), (0, .ref b)] [] S a v f g) (x4 : Int32) (cd dd : Nat) (S : cS) (v : Nat → Int32) (f : Nat → Nat → Int32) (g : Nat → Nat → Int64) (h : lw_c20 R xs L dp x out x4 cd dd S v f g) : lG p l e s m below meth c b D Y cd dd 1135 [(4, .int x4), (3, .ref out), (2, .ref (a 0)), (1, .ref x), (0, .ref b)] [] S a v f g := by
  have hlt := C.2.2.2.2.2.2.2.2.2.2.1
  unfold lw_c20 at h
  refine lq_aload_n C (i := 1) rfl 3 rfl dL_law_1135 ?_
  obtain ⟨hc_1136, h⟩ := h
  obtain ⟨hq_1136, h⟩ := h
  have hm_ := hq_1136
  refine lq_callC C (t_X11_writes l x S dp h) cc_L_260 hc_1136.1 hc_1136.2 (by decide) rfl rfl ⟨by decide, by decide⟩ hm_ rfl (Nat.le_of_ble_eq_true rfl) dL_law_1136 (fun r_1 S_1 h => ?_)
  simp only [Nat.add_zero]
  refine lq_aload_n C (i := 2) rfl 2 rfl dL_law_1139 ?_
  obtain ⟨hc_1140, h⟩ := h
  refine lq_callMW C (s_writes l  v f g h) lM_263 rfl rfl ⟨by decide, by decide⟩ hc_1140 rfl (Nat.le_of_ble_eq_true rfl) dL_law_1140 (fun r_4 v_4 f_4 g_4 h => ?_)
  obtain ⟨hc_1143, h⟩ := h
  refine lq_icmp_eq C 3491 (by decide) dL_law_1143 (fun _ => ?_) (fun c_ => absurd hc_1143 c_)
  exact lq_sub [0, 1, 2, 3, 4] rfl (lz_tail C hR x4 cd dd S_1 v_4 f_4 g_4 h)
set_option maxHeartbeats 1000000 in
set_option maxRecDepth 20000 in
theorem lz_c21 (C : lC p l s m meth c b L xs D Y tp dp) (hL : L < 2 ^ 31) {R : Int32 → Nat → Nat → cS → (Nat → Int32) → (Nat → Nat → Int32) → (Nat → Nat → Int64) → Prop} (hR : ∀ (x4 : Int32) (cd dd : Nat) (S : cS) (v : Nat → Int32) (f : Nat → Nat → Int32) (g : Nat → Nat → Int64), R x4 cd dd S v f g → lG p l e s m below meth c b D Y cd dd 23 [(4, .int x4), (3, .ref out), (2, .ref (a 0)), (1, .ref x), (0, .ref b)] [] S a v f g) (x4 : Int32) (cd dd : Nat) (S : cS) (v : Nat → Int32) (f : Nat → Nat → Int32) (g : Nat → Nat → Int64) (h : lw_c21 R xs L dp x out x4 cd dd S v f g) : lG p l e s m below meth c b D Y cd dd 1148 [(4, .int x4), (3, .ref out), (2, .ref (a 0)), (1, .ref x), (0, .ref b)] [] S a v f g := by
  have hlt := C.2.2.2.2.2.2.2.2.2.2.1
  unfold lw_c21 at h
  refine lq_aload_n C (i := 1) rfl 3 rfl dL_law_1148 ?_
  refine lq_aload_n C (i := 3) rfl 1 rfl dL_law_1149 ?_
  obtain ⟨mc2, ms3, hm_, h⟩ := h
  refine lq_callW C (tw_L_segments l hlt mc2 ms3 x out S dp h) lH_264 rfl rfl ⟨by decide, by decide⟩ hm_ rfl (Nat.le_of_ble_eq_true rfl) dL_law_1150 (fun r_1 S_1 h => ?_)
  refine lq_istore C (lv' := [(5, .int r_1), (4, .int x4), (3, .ref out), (2, .ref (a 0)), (1, .ref x), (0, .ref b)]) (by decide) rfl dL_law_1153 ?_
  refine lq_aload_n C (i := 2) rfl 3 rfl dL_law_1155 ?_
  obtain ⟨hc_1156, h⟩ := h
  refine lq_callMW C (s_segments l  v f g h) lM_266 rfl rfl ⟨by decide, by decide⟩ hc_1156 rfl (Nat.le_of_ble_eq_true rfl) dL_law_1156 (fun r_4 v_4 f_4 g_4 h => ?_)
  refine lq_istore C (lv' := [(6, .int r_4), (5, .int r_1), (4, .int x4), (3, .ref out), (2, .ref (a 0)), (1, .ref x), (0, .ref b)]) (by decide) rfl dL_law_1159 ?_
  refine lq_aload_n C (i := 2) rfl 4 rfl dL_law_1161 ?_
  obtain ⟨hc_1162, h⟩ := h
  refine lq_callMW C (s_thrown l  v_4 f_4 g_4 h) lM_192 rfl rfl ⟨by decide, by decide⟩ hc_1162 rfl (Nat.le_of_ble_eq_true rfl) dL_law_1162 (fun r_5 v_5 f_5 g_5 h => ?_)
  refine lq_iload C 1 rfl dL_law_1165 ?_
  obtain ⟨hc_1167, h⟩ := h
  refine lq_icmp_eq C 1172 (by decide) dL_law_1167 (fun _ => ?_) (fun c_ => absurd hc_1167 c_)
  refine lq_iload C 1 rfl dL_law_1172 ?_
  refine lq_if_ne C 1189 (by decide) dL_law_1174 (fun c_ => ?_) (fun c_ => ?_)
  · have h := h.1 c_
    refine lq_goto C 3491 (by decide) dL_law_1189 ?_
    exact lq_sub [2, 3, 4, 5, 6] rfl (lz_tail C hR x4 (cd + mc2) (dd + ms3) S_1 v_5 f_5 g_5 h)
  · have h := h.2 c_
    refine lq_aload_n C (i := 3) rfl 3 rfl dL_law_1177 ?_
    refine lq_iconst C (x := nI 0) rfl dL_law_1178 ?_
    obtain ⟨hc_1179, h⟩ := h
    refine lq_laloadR C hc_1179 dL_law_1179 ?_
    refine lq_iload C 0 rfl dL_law_1180 ?_
    refine lq_i2l C dL_law_1182 ?_
    refine lq_lcmp C dL_law_1183 ?_
    obtain ⟨hc_1184, h⟩ := h
    refine lq_if_eqC C 1189 (by decide) dL_law_1184 (fun _ => ?_) (fun c_ => absurd hc_1184 c_)
    refine lq_goto C 3491 (by decide) dL_law_1189 ?_
    exact lq_sub [2, 3, 4, 5, 6] rfl (lz_tail C hR x4 (cd + mc2) (dd + ms3) S_1 v_5 f_5 g_5 h)
set_option maxHeartbeats 1000000 in
set_option maxRecDepth 20000 in
theorem lz_c22 (C : lC p l s m meth c b L xs D Y tp dp) (hL : L < 2 ^ 31) {R : Int32 → Nat → Nat → cS → (Nat → Int32) → (Nat → Nat → Int32) → (Nat → Nat → Int64) → Prop} (hR : ∀ (x4 : Int32) (cd dd : Nat) (S : cS) (v : Nat → Int32) (f : Nat → Nat → Int32) (g : Nat → Nat → Int64), R x4 cd dd S v f g → lG p l e s m below meth c b D Y cd dd 23 [(4, .int x4), (3, .ref out), (2, .ref (a 0)), (1, .ref x), (0, .ref b)] [] S a v f g) (x4 : Int32) (cd dd : Nat) (S : cS) (v : Nat → Int32) (f : Nat → Nat → Int32) (g : Nat → Nat → Int64) (h : lw_c22 R xs L dp x out x4 cd dd S v f g) : lG p l e s m below meth c b D Y cd dd 1192 [(4, .int x4), (3, .ref out), (2, .ref (a 0)), (1, .ref x), (0, .ref b)] [] S a v f g := by
  have hlt := C.2.2.2.2.2.2.2.2.2.2.1
  unfold lw_c22 at h
  refine lq_aload_n C (i := 1) rfl 3 rfl dL_law_1192 ?_
  refine lq_aload_n C (i := 0) rfl 4 rfl dL_law_1193 ?_
  refine lq_iload C 0 rfl dL_law_1194 ?_
  refine lq_iconst C (x := nI 1) rfl dL_law_1196 ?_
  refine lq_iadd C dL_law_1197 ?_
  obtain ⟨hc_1198, h⟩ := h
  refine lq_sldR C hL hc_1198 dL_law_1198 ?_
  refine lq_aload_n C (i := 3) rfl 1 rfl dL_law_1199 ?_
  obtain ⟨mc2, ms3, hm_, h⟩ := h
  refine lq_callW C (tw_L_segmentAt l hlt mc2 ms3 x ((xs ((x4 + ((nI 1)))).toNatClampNeg)) out S dp h) lH_267 rfl rfl ⟨by decide, by decide⟩ hm_ rfl (Nat.le_of_ble_eq_true rfl) dL_law_1200 (fun r_1 S_1 h => ?_)
  refine lq_istore C (lv' := [(5, .int r_1), (4, .int x4), (3, .ref out), (2, .ref (a 0)), (1, .ref x), (0, .ref b)]) (by decide) rfl dL_law_1203 ?_
  refine lq_aload_n C (i := 2) rfl 3 rfl dL_law_1205 ?_
  refine lq_aload_n C (i := 0) rfl 5 rfl dL_law_1206 ?_
  refine lq_iload C 1 rfl dL_law_1207 ?_
  refine lq_iconst C (x := nI 1) rfl dL_law_1209 ?_
  refine lq_iadd C dL_law_1210 ?_
  obtain ⟨hc_1211, h⟩ := h
  refine lq_sldR C hL hc_1211 dL_law_1211 ?_
  obtain ⟨hc_1212, h⟩ := h
  refine lq_callMW C (s_segmentAt l ((xs ((x4 + ((nI 1)))).toNatClampNeg)) v f g h) lM_269 rfl rfl ⟨by decide, by decide⟩ hc_1212 rfl (Nat.le_of_ble_eq_true rfl) dL_law_1212 (fun r_4 v_4 f_4 g_4 h => ?_)
  refine lq_istore C (lv' := [(6, .int r_4), (5, .int r_1), (4, .int x4), (3, .ref out), (2, .ref (a 0)), (1, .ref x), (0, .ref b)]) (by decide) rfl dL_law_1215 ?_
  refine lq_aload_n C (i := 2) rfl 4 rfl dL_law_1217 ?_
  obtain ⟨hc_1218, h⟩ := h
  refine lq_callMW C (s_thrown l  v_4 f_4 g_4 h) lM_192 rfl rfl ⟨by decide, by decide⟩ hc_1218 rfl (Nat.le_of_ble_eq_true rfl) dL_law_1218 (fun r_5 v_5 f_5 g_5 h => ?_)
  refine lq_iload C 1 rfl dL_law_1221 ?_
  obtain ⟨hc_1223, h⟩ := h
  refine lq_icmp_eq C 1228 (by decide) dL_law_1223 (fun _ => ?_) (fun c_ => absurd hc_1223 c_)
  refine lq_iload C 1 rfl dL_law_1228 ?_
  refine lq_if_ne C 1245 (by decide) dL_law_1230 (fun c_ => ?_) (fun c_ => ?_)
  · have h := h.1 c_
    refine lq_goto C 3491 (by decide) dL_law_1245 ?_
    exact lq_sub [2, 3, 4, 5, 6] rfl (lz_tail C hR x4 (cd + mc2) (dd + ms3) S_1 v_5 f_5 g_5 h)
  · have h := h.2 c_
    refine lq_aload_n C (i := 3) rfl 3 rfl dL_law_1233 ?_
    refine lq_iconst C (x := nI 0) rfl dL_law_1234 ?_
    obtain ⟨hc_1235, h⟩ := h
    refine lq_laloadR C hc_1235 dL_law_1235 ?_
    refine lq_iload C 0 rfl dL_law_1236 ?_
    refine lq_i2l C dL_law_1238 ?_
    refine lq_lcmp C dL_law_1239 ?_
    obtain ⟨hc_1240, h⟩ := h
    refine lq_if_eqC C 1245 (by decide) dL_law_1240 (fun _ => ?_) (fun c_ => absurd hc_1240 c_)
    refine lq_goto C 3491 (by decide) dL_law_1245 ?_
    exact lq_sub [2, 3, 4, 5, 6] rfl (lz_tail C hR x4 (cd + mc2) (dd + ms3) S_1 v_5 f_5 g_5 h)
set_option maxHeartbeats 1000000 in
set_option maxRecDepth 20000 in
theorem lz_c23 (C : lC p l s m meth c b L xs D Y tp dp) (hL : L < 2 ^ 31) {R : Int32 → Nat → Nat → cS → (Nat → Int32) → (Nat → Nat → Int32) → (Nat → Nat → Int64) → Prop} (hR : ∀ (x4 : Int32) (cd dd : Nat) (S : cS) (v : Nat → Int32) (f : Nat → Nat → Int32) (g : Nat → Nat → Int64), R x4 cd dd S v f g → lG p l e s m below meth c b D Y cd dd 23 [(4, .int x4), (3, .ref out), (2, .ref (a 0)), (1, .ref x), (0, .ref b)] [] S a v f g) (x4 : Int32) (cd dd : Nat) (S : cS) (v : Nat → Int32) (f : Nat → Nat → Int32) (g : Nat → Nat → Int64) (h : lw_c23 R xs L dp x out x4 cd dd S v f g) : lG p l e s m below meth c b D Y cd dd 1248 [(4, .int x4), (3, .ref out), (2, .ref (a 0)), (1, .ref x), (0, .ref b)] [] S a v f g := by
  have hlt := C.2.2.2.2.2.2.2.2.2.2.1
  unfold lw_c23 at h
  refine lq_aload_n C (i := 1) rfl 3 rfl dL_law_1248 ?_
  refine lq_aload_n C (i := 0) rfl 4 rfl dL_law_1249 ?_
  refine lq_iload C 0 rfl dL_law_1250 ?_
  refine lq_iconst C (x := nI 1) rfl dL_law_1252 ?_
  refine lq_iadd C dL_law_1253 ?_
  obtain ⟨hc_1254, h⟩ := h
  refine lq_sldR C hL hc_1254 dL_law_1254 ?_
  refine lq_aload_n C (i := 3) rfl 1 rfl dL_law_1255 ?_
  obtain ⟨mc2, ms3, hm_, h⟩ := h
  refine lq_callW C (tw_L_live l hlt mc2 ms3 x ((xs ((x4 + ((nI 1)))).toNatClampNeg)) out S dp h) lH_270 rfl rfl ⟨by decide, by decide⟩ hm_ rfl (Nat.le_of_ble_eq_true rfl) dL_law_1256 (fun r_1 S_1 h => ?_)
  refine lq_istore C (lv' := [(5, .int r_1), (4, .int x4), (3, .ref out), (2, .ref (a 0)), (1, .ref x), (0, .ref b)]) (by decide) rfl dL_law_1259 ?_
  refine lq_aload_n C (i := 2) rfl 3 rfl dL_law_1261 ?_
  refine lq_aload_n C (i := 0) rfl 5 rfl dL_law_1262 ?_
  refine lq_iload C 1 rfl dL_law_1263 ?_
  refine lq_iconst C (x := nI 1) rfl dL_law_1265 ?_
  refine lq_iadd C dL_law_1266 ?_
  obtain ⟨hc_1267, h⟩ := h
  refine lq_sldR C hL hc_1267 dL_law_1267 ?_
  obtain ⟨hc_1268, h⟩ := h
  refine lq_callMW C (s_live l ((xs ((x4 + ((nI 1)))).toNatClampNeg)) v f g h) lM_272 rfl rfl ⟨by decide, by decide⟩ hc_1268 rfl (Nat.le_of_ble_eq_true rfl) dL_law_1268 (fun r_4 v_4 f_4 g_4 h => ?_)
  refine lq_istore C (lv' := [(6, .int r_4), (5, .int r_1), (4, .int x4), (3, .ref out), (2, .ref (a 0)), (1, .ref x), (0, .ref b)]) (by decide) rfl dL_law_1271 ?_
  refine lq_aload_n C (i := 2) rfl 4 rfl dL_law_1273 ?_
  obtain ⟨hc_1274, h⟩ := h
  refine lq_callMW C (s_thrown l  v_4 f_4 g_4 h) lM_192 rfl rfl ⟨by decide, by decide⟩ hc_1274 rfl (Nat.le_of_ble_eq_true rfl) dL_law_1274 (fun r_5 v_5 f_5 g_5 h => ?_)
  refine lq_iload C 1 rfl dL_law_1277 ?_
  obtain ⟨hc_1279, h⟩ := h
  refine lq_icmp_eq C 1284 (by decide) dL_law_1279 (fun _ => ?_) (fun c_ => absurd hc_1279 c_)
  refine lq_iload C 1 rfl dL_law_1284 ?_
  refine lq_if_ne C 1301 (by decide) dL_law_1286 (fun c_ => ?_) (fun c_ => ?_)
  · have h := h.1 c_
    refine lq_goto C 3491 (by decide) dL_law_1301 ?_
    exact lq_sub [2, 3, 4, 5, 6] rfl (lz_tail C hR x4 (cd + mc2) (dd + ms3) S_1 v_5 f_5 g_5 h)
  · have h := h.2 c_
    refine lq_aload_n C (i := 3) rfl 3 rfl dL_law_1289 ?_
    refine lq_iconst C (x := nI 0) rfl dL_law_1290 ?_
    obtain ⟨hc_1291, h⟩ := h
    refine lq_laloadR C hc_1291 dL_law_1291 ?_
    refine lq_iload C 0 rfl dL_law_1292 ?_
    refine lq_i2l C dL_law_1294 ?_
    refine lq_lcmp C dL_law_1295 ?_
    obtain ⟨hc_1296, h⟩ := h
    refine lq_if_eqC C 1301 (by decide) dL_law_1296 (fun _ => ?_) (fun c_ => absurd hc_1296 c_)
    refine lq_goto C 3491 (by decide) dL_law_1301 ?_
    exact lq_sub [2, 3, 4, 5, 6] rfl (lz_tail C hR x4 (cd + mc2) (dd + ms3) S_1 v_5 f_5 g_5 h)
set_option maxHeartbeats 1000000 in
set_option maxRecDepth 20000 in
theorem lz_c24 (C : lC p l s m meth c b L xs D Y tp dp) (hL : L < 2 ^ 31) {R : Int32 → Nat → Nat → cS → (Nat → Int32) → (Nat → Nat → Int32) → (Nat → Nat → Int64) → Prop} (hR : ∀ (x4 : Int32) (cd dd : Nat) (S : cS) (v : Nat → Int32) (f : Nat → Nat → Int32) (g : Nat → Nat → Int64), R x4 cd dd S v f g → lG p l e s m below meth c b D Y cd dd 23 [(4, .int x4), (3, .ref out), (2, .ref (a 0)), (1, .ref x), (0, .ref b)] [] S a v f g) (x4 : Int32) (cd dd : Nat) (S : cS) (v : Nat → Int32) (f : Nat → Nat → Int32) (g : Nat → Nat → Int64) (h : lw_c24 R xs L dp x out x4 cd dd S v f g) : lG p l e s m below meth c b D Y cd dd 1304 [(4, .int x4), (3, .ref out), (2, .ref (a 0)), (1, .ref x), (0, .ref b)] [] S a v f g := by
  have hlt := C.2.2.2.2.2.2.2.2.2.2.1
  unfold lw_c24 at h
  refine lq_aload_n C (i := 1) rfl 3 rfl dL_law_1304 ?_
  refine lq_aload_n C (i := 0) rfl 4 rfl dL_law_1305 ?_
  refine lq_iload C 0 rfl dL_law_1306 ?_
  refine lq_iconst C (x := nI 1) rfl dL_law_1308 ?_
  refine lq_iadd C dL_law_1309 ?_
  obtain ⟨hc_1310, h⟩ := h
  refine lq_sldR C hL hc_1310 dL_law_1310 ?_
  refine lq_aload_n C (i := 0) rfl 4 rfl dL_law_1311 ?_
  refine lq_iload C 0 rfl dL_law_1312 ?_
  refine lq_iconst C (x := nI 2) rfl dL_law_1314 ?_
  refine lq_iadd C dL_law_1315 ?_
  obtain ⟨hc_1316, h⟩ := h
  refine lq_sldR C hL hc_1316 dL_law_1316 ?_
  refine lq_aload_n C (i := 3) rfl 1 rfl dL_law_1317 ?_
  obtain ⟨mc2, ms3, hm_, h⟩ := h
  refine lq_callW C (tw_L_keyAt l hlt mc2 ms3 x ((xs ((x4 + ((nI 1)))).toNatClampNeg)) ((xs ((x4 + ((nI 2)))).toNatClampNeg)) out S dp h) lH_273 rfl rfl ⟨by decide, by decide⟩ hm_ rfl (Nat.le_of_ble_eq_true rfl) dL_law_1318 (fun r_1 S_1 h => ?_)
  refine lq_istore C (lv' := [(5, .int r_1), (4, .int x4), (3, .ref out), (2, .ref (a 0)), (1, .ref x), (0, .ref b)]) (by decide) rfl dL_law_1321 ?_
  refine lq_aload_n C (i := 2) rfl 3 rfl dL_law_1323 ?_
  refine lq_aload_n C (i := 0) rfl 5 rfl dL_law_1324 ?_
  refine lq_iload C 1 rfl dL_law_1325 ?_
  refine lq_iconst C (x := nI 1) rfl dL_law_1327 ?_
  refine lq_iadd C dL_law_1328 ?_
  obtain ⟨hc_1329, h⟩ := h
  refine lq_sldR C hL hc_1329 dL_law_1329 ?_
  refine lq_aload_n C (i := 0) rfl 5 rfl dL_law_1330 ?_
  refine lq_iload C 1 rfl dL_law_1331 ?_
  refine lq_iconst C (x := nI 2) rfl dL_law_1333 ?_
  refine lq_iadd C dL_law_1334 ?_
  obtain ⟨hc_1335, h⟩ := h
  refine lq_sldR C hL hc_1335 dL_law_1335 ?_
  obtain ⟨hc_1336, h⟩ := h
  refine lq_callMW C (s_keyAt l ((xs ((x4 + ((nI 1)))).toNatClampNeg)) ((xs ((x4 + ((nI 2)))).toNatClampNeg)) v f g h) lM_276 rfl rfl ⟨by decide, by decide⟩ hc_1336 rfl (Nat.le_of_ble_eq_true rfl) dL_law_1336 (fun r_4 v_4 f_4 g_4 h => ?_)
  refine lq_istore C (lv' := [(6, .int r_4), (5, .int r_1), (4, .int x4), (3, .ref out), (2, .ref (a 0)), (1, .ref x), (0, .ref b)]) (by decide) rfl dL_law_1339 ?_
  refine lq_aload_n C (i := 2) rfl 4 rfl dL_law_1341 ?_
  obtain ⟨hc_1342, h⟩ := h
  refine lq_callMW C (s_thrown l  v_4 f_4 g_4 h) lM_192 rfl rfl ⟨by decide, by decide⟩ hc_1342 rfl (Nat.le_of_ble_eq_true rfl) dL_law_1342 (fun r_5 v_5 f_5 g_5 h => ?_)
  refine lq_iload C 1 rfl dL_law_1345 ?_
  obtain ⟨hc_1347, h⟩ := h
  refine lq_icmp_eq C 1352 (by decide) dL_law_1347 (fun _ => ?_) (fun c_ => absurd hc_1347 c_)
  refine lq_iload C 1 rfl dL_law_1352 ?_
  refine lq_if_ne C 1369 (by decide) dL_law_1354 (fun c_ => ?_) (fun c_ => ?_)
  · have h := h.1 c_
    refine lq_goto C 3491 (by decide) dL_law_1369 ?_
    exact lq_sub [2, 3, 4, 5, 6] rfl (lz_tail C hR x4 (cd + mc2) (dd + ms3) S_1 v_5 f_5 g_5 h)
  · have h := h.2 c_
    refine lq_aload_n C (i := 3) rfl 3 rfl dL_law_1357 ?_
    refine lq_iconst C (x := nI 0) rfl dL_law_1358 ?_
    obtain ⟨hc_1359, h⟩ := h
    refine lq_laloadR C hc_1359 dL_law_1359 ?_
    refine lq_iload C 0 rfl dL_law_1360 ?_
    refine lq_i2l C dL_law_1362 ?_
    refine lq_lcmp C dL_law_1363 ?_
    obtain ⟨hc_1364, h⟩ := h
    refine lq_if_eqC C 1369 (by decide) dL_law_1364 (fun _ => ?_) (fun c_ => absurd hc_1364 c_)
    refine lq_goto C 3491 (by decide) dL_law_1369 ?_
    exact lq_sub [2, 3, 4, 5, 6] rfl (lz_tail C hR x4 (cd + mc2) (dd + ms3) S_1 v_5 f_5 g_5 h)
set_option maxHeartbeats 1000000 in
set_option maxRecDepth 20000 in
theorem lz_c25 (C : lC p l s m meth c b L xs D Y tp dp) (hL : L < 2 ^ 31) {R : Int32 → Nat → Nat → cS → (Nat → Int32) → (Nat → Nat → Int32) → (Nat → Nat → Int64) → Prop} (hR : ∀ (x4 : Int32) (cd dd : Nat) (S : cS) (v : Nat → Int32) (f : Nat → Nat → Int32) (g : Nat → Nat → Int64), R x4 cd dd S v f g → lG p l e s m below meth c b D Y cd dd 23 [(4, .int x4), (3, .ref out), (2, .ref (a 0)), (1, .ref x), (0, .ref b)] [] S a v f g) (x4 : Int32) (cd dd : Nat) (S : cS) (v : Nat → Int32) (f : Nat → Nat → Int32) (g : Nat → Nat → Int64) (h : lw_c25 R xs L dp x out x4 cd dd S v f g) : lG p l e s m below meth c b D Y cd dd 1372 [(4, .int x4), (3, .ref out), (2, .ref (a 0)), (1, .ref x), (0, .ref b)] [] S a v f g := by
  have hlt := C.2.2.2.2.2.2.2.2.2.2.1
  unfold lw_c25 at h
  refine lq_aload_n C (i := 1) rfl 3 rfl dL_law_1372 ?_
  refine lq_aload_n C (i := 0) rfl 4 rfl dL_law_1373 ?_
  refine lq_iload C 0 rfl dL_law_1374 ?_
  refine lq_iconst C (x := nI 1) rfl dL_law_1376 ?_
  refine lq_iadd C dL_law_1377 ?_
  obtain ⟨hc_1378, h⟩ := h
  refine lq_sldR C hL hc_1378 dL_law_1378 ?_
  refine lq_aload_n C (i := 0) rfl 4 rfl dL_law_1379 ?_
  refine lq_iload C 0 rfl dL_law_1380 ?_
  refine lq_iconst C (x := nI 2) rfl dL_law_1382 ?_
  refine lq_iadd C dL_law_1383 ?_
  obtain ⟨hc_1384, h⟩ := h
  refine lq_sldR C hL hc_1384 dL_law_1384 ?_
  refine lq_aload_n C (i := 3) rfl 1 rfl dL_law_1385 ?_
  obtain ⟨mc2, ms3, hm_, h⟩ := h
  refine lq_callW C (tw_L_words l hlt mc2 ms3 x ((xs ((x4 + ((nI 1)))).toNatClampNeg)) ((xs ((x4 + ((nI 2)))).toNatClampNeg)) out S dp h) lH_277 rfl rfl ⟨by decide, by decide⟩ hm_ rfl (Nat.le_of_ble_eq_true rfl) dL_law_1386 (fun r_1 S_1 h => ?_)
  refine lq_istore C (lv' := [(5, .int r_1), (4, .int x4), (3, .ref out), (2, .ref (a 0)), (1, .ref x), (0, .ref b)]) (by decide) rfl dL_law_1389 ?_
  refine lq_aload_n C (i := 2) rfl 3 rfl dL_law_1391 ?_
  refine lq_aload_n C (i := 0) rfl 5 rfl dL_law_1392 ?_
  refine lq_iload C 1 rfl dL_law_1393 ?_
  refine lq_iconst C (x := nI 1) rfl dL_law_1395 ?_
  refine lq_iadd C dL_law_1396 ?_
  obtain ⟨hc_1397, h⟩ := h
  refine lq_sldR C hL hc_1397 dL_law_1397 ?_
  refine lq_aload_n C (i := 0) rfl 5 rfl dL_law_1398 ?_
  refine lq_iload C 1 rfl dL_law_1399 ?_
  refine lq_iconst C (x := nI 2) rfl dL_law_1401 ?_
  refine lq_iadd C dL_law_1402 ?_
  obtain ⟨hc_1403, h⟩ := h
  refine lq_sldR C hL hc_1403 dL_law_1403 ?_
  obtain ⟨hc_1404, h⟩ := h
  refine lq_callMW C (s_words l ((xs ((x4 + ((nI 1)))).toNatClampNeg)) ((xs ((x4 + ((nI 2)))).toNatClampNeg)) v f g h) lM_279 rfl rfl ⟨by decide, by decide⟩ hc_1404 rfl (Nat.le_of_ble_eq_true rfl) dL_law_1404 (fun r_4 v_4 f_4 g_4 h => ?_)
  refine lq_istore C (lv' := [(6, .int r_4), (5, .int r_1), (4, .int x4), (3, .ref out), (2, .ref (a 0)), (1, .ref x), (0, .ref b)]) (by decide) rfl dL_law_1407 ?_
  refine lq_aload_n C (i := 2) rfl 4 rfl dL_law_1409 ?_
  obtain ⟨hc_1410, h⟩ := h
  refine lq_callMW C (s_thrown l  v_4 f_4 g_4 h) lM_192 rfl rfl ⟨by decide, by decide⟩ hc_1410 rfl (Nat.le_of_ble_eq_true rfl) dL_law_1410 (fun r_5 v_5 f_5 g_5 h => ?_)
  refine lq_iload C 1 rfl dL_law_1413 ?_
  obtain ⟨hc_1415, h⟩ := h
  refine lq_icmp_eq C 1420 (by decide) dL_law_1415 (fun _ => ?_) (fun c_ => absurd hc_1415 c_)
  refine lq_iload C 1 rfl dL_law_1420 ?_
  refine lq_if_ne C 1437 (by decide) dL_law_1422 (fun c_ => ?_) (fun c_ => ?_)
  · have h := h.1 c_
    refine lq_goto C 3491 (by decide) dL_law_1437 ?_
    exact lq_sub [2, 3, 4, 5, 6] rfl (lz_tail C hR x4 (cd + mc2) (dd + ms3) S_1 v_5 f_5 g_5 h)
  · have h := h.2 c_
    refine lq_aload_n C (i := 3) rfl 3 rfl dL_law_1425 ?_
    refine lq_iconst C (x := nI 0) rfl dL_law_1426 ?_
    obtain ⟨hc_1427, h⟩ := h
    refine lq_laloadR C hc_1427 dL_law_1427 ?_
    refine lq_iload C 0 rfl dL_law_1428 ?_
    refine lq_i2l C dL_law_1430 ?_
    refine lq_lcmp C dL_law_1431 ?_
    obtain ⟨hc_1432, h⟩ := h
    refine lq_if_eqC C 1437 (by decide) dL_law_1432 (fun _ => ?_) (fun c_ => absurd hc_1432 c_)
    refine lq_goto C 3491 (by decide) dL_law_1437 ?_
    exact lq_sub [2, 3, 4, 5, 6] rfl (lz_tail C hR x4 (cd + mc2) (dd + ms3) S_1 v_5 f_5 g_5 h)
set_option maxHeartbeats 1000000 in
set_option maxRecDepth 20000 in
theorem lz_c26 (C : lC p l s m meth c b L xs D Y tp dp) (hL : L < 2 ^ 31) {R : Int32 → Nat → Nat → cS → (Nat → Int32) → (Nat → Nat → Int32) → (Nat → Nat → Int64) → Prop} (hR : ∀ (x4 : Int32) (cd dd : Nat) (S : cS) (v : Nat → Int32) (f : Nat → Nat → Int32) (g : Nat → Nat → Int64), R x4 cd dd S v f g → lG p l e s m below meth c b D Y cd dd 23 [(4, .int x4), (3, .ref out), (2, .ref (a 0)), (1, .ref x), (0, .ref b)] [] S a v f g) (x4 : Int32) (cd dd : Nat) (S : cS) (v : Nat → Int32) (f : Nat → Nat → Int32) (g : Nat → Nat → Int64) (h : lw_c26 R xs L dp x out x4 cd dd S v f g) : lG p l e s m below meth c b D Y cd dd 1440 [(4, .int x4), (3, .ref out), (2, .ref (a 0)), (1, .ref x), (0, .ref b)] [] S a v f g := by
  have hlt := C.2.2.2.2.2.2.2.2.2.2.1
  unfold lw_c26 at h
  refine lq_aload_n C (i := 1) rfl 3 rfl dL_law_1440 ?_
  refine lq_aload_n C (i := 0) rfl 4 rfl dL_law_1441 ?_
  refine lq_iload C 0 rfl dL_law_1442 ?_
  refine lq_iconst C (x := nI 1) rfl dL_law_1444 ?_
  refine lq_iadd C dL_law_1445 ?_
  obtain ⟨hc_1446, h⟩ := h
  refine lq_sldR C hL hc_1446 dL_law_1446 ?_
  refine lq_aload_n C (i := 0) rfl 4 rfl dL_law_1447 ?_
  refine lq_iload C 0 rfl dL_law_1448 ?_
  refine lq_iconst C (x := nI 2) rfl dL_law_1450 ?_
  refine lq_iadd C dL_law_1451 ?_
  obtain ⟨hc_1452, h⟩ := h
  refine lq_sldR C hL hc_1452 dL_law_1452 ?_
  refine lq_aload_n C (i := 0) rfl 4 rfl dL_law_1453 ?_
  refine lq_iload C 0 rfl dL_law_1454 ?_
  refine lq_iconst C (x := nI 3) rfl dL_law_1456 ?_
  refine lq_iadd C dL_law_1457 ?_
  obtain ⟨hc_1458, h⟩ := h
  refine lq_sldR C hL hc_1458 dL_law_1458 ?_
  refine lq_aload_n C (i := 3) rfl 1 rfl dL_law_1459 ?_
  obtain ⟨mc2, ms3, hm_, h⟩ := h
  refine lq_callW C (tw_L_shared l hlt mc2 ms3 x ((xs ((x4 + ((nI 1)))).toNatClampNeg)) ((xs ((x4 + ((nI 2)))).toNatClampNeg)) ((xs ((x4 + ((nI 3)))).toNatClampNeg)) out S dp h) lH_280 rfl rfl ⟨by decide, by decide⟩ hm_ rfl (Nat.le_of_ble_eq_true rfl) dL_law_1460 (fun r_1 S_1 h => ?_)
  refine lq_istore C (lv' := [(5, .int r_1), (4, .int x4), (3, .ref out), (2, .ref (a 0)), (1, .ref x), (0, .ref b)]) (by decide) rfl dL_law_1463 ?_
  refine lq_aload_n C (i := 2) rfl 3 rfl dL_law_1465 ?_
  refine lq_aload_n C (i := 0) rfl 5 rfl dL_law_1466 ?_
  refine lq_iload C 1 rfl dL_law_1467 ?_
  refine lq_iconst C (x := nI 1) rfl dL_law_1469 ?_
  refine lq_iadd C dL_law_1470 ?_
  obtain ⟨hc_1471, h⟩ := h
  refine lq_sldR C hL hc_1471 dL_law_1471 ?_
  refine lq_aload_n C (i := 0) rfl 5 rfl dL_law_1472 ?_
  refine lq_iload C 1 rfl dL_law_1473 ?_
  refine lq_iconst C (x := nI 2) rfl dL_law_1475 ?_
  refine lq_iadd C dL_law_1476 ?_
  obtain ⟨hc_1477, h⟩ := h
  refine lq_sldR C hL hc_1477 dL_law_1477 ?_
  refine lq_aload_n C (i := 0) rfl 5 rfl dL_law_1478 ?_
  refine lq_iload C 1 rfl dL_law_1479 ?_
  refine lq_iconst C (x := nI 3) rfl dL_law_1481 ?_
  refine lq_iadd C dL_law_1482 ?_
  obtain ⟨hc_1483, h⟩ := h
  refine lq_sldR C hL hc_1483 dL_law_1483 ?_
  obtain ⟨hc_1484, h⟩ := h
  refine lq_callMW C (s_shared l ((xs ((x4 + ((nI 1)))).toNatClampNeg)) ((xs ((x4 + ((nI 2)))).toNatClampNeg)) ((xs ((x4 + ((nI 3)))).toNatClampNeg)) v f g h) lM_283 rfl rfl ⟨by decide, by decide⟩ hc_1484 rfl (Nat.le_of_ble_eq_true rfl) dL_law_1484 (fun r_4 v_4 f_4 g_4 h => ?_)
  refine lq_istore C (lv' := [(6, .int r_4), (5, .int r_1), (4, .int x4), (3, .ref out), (2, .ref (a 0)), (1, .ref x), (0, .ref b)]) (by decide) rfl dL_law_1487 ?_
  refine lq_aload_n C (i := 2) rfl 4 rfl dL_law_1489 ?_
  obtain ⟨hc_1490, h⟩ := h
  refine lq_callMW C (s_thrown l  v_4 f_4 g_4 h) lM_192 rfl rfl ⟨by decide, by decide⟩ hc_1490 rfl (Nat.le_of_ble_eq_true rfl) dL_law_1490 (fun r_5 v_5 f_5 g_5 h => ?_)
  refine lq_iload C 1 rfl dL_law_1493 ?_
  obtain ⟨hc_1495, h⟩ := h
  refine lq_icmp_eq C 1500 (by decide) dL_law_1495 (fun _ => ?_) (fun c_ => absurd hc_1495 c_)
  refine lq_iload C 1 rfl dL_law_1500 ?_
  refine lq_if_ne C 1517 (by decide) dL_law_1502 (fun c_ => ?_) (fun c_ => ?_)
  · have h := h.1 c_
    refine lq_goto C 3491 (by decide) dL_law_1517 ?_
    exact lq_sub [2, 3, 4, 5, 6] rfl (lz_tail C hR x4 (cd + mc2) (dd + ms3) S_1 v_5 f_5 g_5 h)
  · have h := h.2 c_
    refine lq_aload_n C (i := 3) rfl 3 rfl dL_law_1505 ?_
    refine lq_iconst C (x := nI 0) rfl dL_law_1506 ?_
    obtain ⟨hc_1507, h⟩ := h
    refine lq_laloadR C hc_1507 dL_law_1507 ?_
    refine lq_iload C 0 rfl dL_law_1508 ?_
    refine lq_i2l C dL_law_1510 ?_
    refine lq_lcmp C dL_law_1511 ?_
    obtain ⟨hc_1512, h⟩ := h
    refine lq_if_eqC C 1517 (by decide) dL_law_1512 (fun _ => ?_) (fun c_ => absurd hc_1512 c_)
    refine lq_goto C 3491 (by decide) dL_law_1517 ?_
    exact lq_sub [2, 3, 4, 5, 6] rfl (lz_tail C hR x4 (cd + mc2) (dd + ms3) S_1 v_5 f_5 g_5 h)
set_option maxHeartbeats 1000000 in
set_option maxRecDepth 20000 in
theorem lz_c27 (C : lC p l s m meth c b L xs D Y tp dp) (hL : L < 2 ^ 31) {R : Int32 → Nat → Nat → cS → (Nat → Int32) → (Nat → Nat → Int32) → (Nat → Nat → Int64) → Prop} (hR : ∀ (x4 : Int32) (cd dd : Nat) (S : cS) (v : Nat → Int32) (f : Nat → Nat → Int32) (g : Nat → Nat → Int64), R x4 cd dd S v f g → lG p l e s m below meth c b D Y cd dd 23 [(4, .int x4), (3, .ref out), (2, .ref (a 0)), (1, .ref x), (0, .ref b)] [] S a v f g) (x4 : Int32) (cd dd : Nat) (S : cS) (v : Nat → Int32) (f : Nat → Nat → Int32) (g : Nat → Nat → Int64) (h : lw_c27 R xs L dp x out x4 cd dd S v f g) : lG p l e s m below meth c b D Y cd dd 1520 [(4, .int x4), (3, .ref out), (2, .ref (a 0)), (1, .ref x), (0, .ref b)] [] S a v f g := by
  have hlt := C.2.2.2.2.2.2.2.2.2.2.1
  unfold lw_c27 at h
  refine lq_aload_n C (i := 1) rfl 3 rfl dL_law_1520 ?_
  refine lq_aload_n C (i := 0) rfl 4 rfl dL_law_1521 ?_
  refine lq_iload C 0 rfl dL_law_1522 ?_
  refine lq_iconst C (x := nI 1) rfl dL_law_1524 ?_
  refine lq_iadd C dL_law_1525 ?_
  obtain ⟨hc_1526, h⟩ := h
  refine lq_sldR C hL hc_1526 dL_law_1526 ?_
  refine lq_aload_n C (i := 0) rfl 4 rfl dL_law_1527 ?_
  refine lq_iload C 0 rfl dL_law_1528 ?_
  refine lq_iconst C (x := nI 2) rfl dL_law_1530 ?_
  refine lq_iadd C dL_law_1531 ?_
  obtain ⟨hc_1532, h⟩ := h
  refine lq_sldR C hL hc_1532 dL_law_1532 ?_
  refine lq_aload_n C (i := 3) rfl 1 rfl dL_law_1533 ?_
  obtain ⟨mc2, ms3, hm_, h⟩ := h
  refine lq_callW C (tw_L_wordBytes l hlt mc2 ms3 x ((xs ((x4 + ((nI 1)))).toNatClampNeg)) ((xs ((x4 + ((nI 2)))).toNatClampNeg)) out S dp h) lH_284 rfl rfl ⟨by decide, by decide⟩ hm_ rfl (Nat.le_of_ble_eq_true rfl) dL_law_1534 (fun r_1 S_1 h => ?_)
  refine lq_istore C (lv' := [(5, .int r_1), (4, .int x4), (3, .ref out), (2, .ref (a 0)), (1, .ref x), (0, .ref b)]) (by decide) rfl dL_law_1537 ?_
  refine lq_aload_n C (i := 2) rfl 3 rfl dL_law_1539 ?_
  refine lq_aload_n C (i := 0) rfl 5 rfl dL_law_1540 ?_
  refine lq_iload C 1 rfl dL_law_1541 ?_
  refine lq_iconst C (x := nI 1) rfl dL_law_1543 ?_
  refine lq_iadd C dL_law_1544 ?_
  obtain ⟨hc_1545, h⟩ := h
  refine lq_sldR C hL hc_1545 dL_law_1545 ?_
  refine lq_aload_n C (i := 0) rfl 5 rfl dL_law_1546 ?_
  refine lq_iload C 1 rfl dL_law_1547 ?_
  refine lq_iconst C (x := nI 2) rfl dL_law_1549 ?_
  refine lq_iadd C dL_law_1550 ?_
  obtain ⟨hc_1551, h⟩ := h
  refine lq_sldR C hL hc_1551 dL_law_1551 ?_
  obtain ⟨hc_1552, h⟩ := h
  refine lq_callMW C (s_wordBytes l ((xs ((x4 + ((nI 1)))).toNatClampNeg)) ((xs ((x4 + ((nI 2)))).toNatClampNeg)) v f g h) lM_286 rfl rfl ⟨by decide, by decide⟩ hc_1552 rfl (Nat.le_of_ble_eq_true rfl) dL_law_1552 (fun r_4 v_4 f_4 g_4 h => ?_)
  refine lq_istore C (lv' := [(6, .int r_4), (5, .int r_1), (4, .int x4), (3, .ref out), (2, .ref (a 0)), (1, .ref x), (0, .ref b)]) (by decide) rfl dL_law_1555 ?_
  refine lq_aload_n C (i := 2) rfl 4 rfl dL_law_1557 ?_
  obtain ⟨hc_1558, h⟩ := h
  refine lq_callMW C (s_thrown l  v_4 f_4 g_4 h) lM_192 rfl rfl ⟨by decide, by decide⟩ hc_1558 rfl (Nat.le_of_ble_eq_true rfl) dL_law_1558 (fun r_5 v_5 f_5 g_5 h => ?_)
  refine lq_iload C 1 rfl dL_law_1561 ?_
  obtain ⟨hc_1563, h⟩ := h
  refine lq_icmp_eq C 1568 (by decide) dL_law_1563 (fun _ => ?_) (fun c_ => absurd hc_1563 c_)
  refine lq_iload C 1 rfl dL_law_1568 ?_
  refine lq_if_ne C 1585 (by decide) dL_law_1570 (fun c_ => ?_) (fun c_ => ?_)
  · have h := h.1 c_
    refine lq_goto C 3491 (by decide) dL_law_1585 ?_
    exact lq_sub [2, 3, 4, 5, 6] rfl (lz_tail C hR x4 (cd + mc2) (dd + ms3) S_1 v_5 f_5 g_5 h)
  · have h := h.2 c_
    refine lq_aload_n C (i := 3) rfl 3 rfl dL_law_1573 ?_
    refine lq_iconst C (x := nI 0) rfl dL_law_1574 ?_
    obtain ⟨hc_1575, h⟩ := h
    refine lq_laloadR C hc_1575 dL_law_1575 ?_
    refine lq_iload C 0 rfl dL_law_1576 ?_
    refine lq_i2l C dL_law_1578 ?_
    refine lq_lcmp C dL_law_1579 ?_
    obtain ⟨hc_1580, h⟩ := h
    refine lq_if_eqC C 1585 (by decide) dL_law_1580 (fun _ => ?_) (fun c_ => absurd hc_1580 c_)
    refine lq_goto C 3491 (by decide) dL_law_1585 ?_
    exact lq_sub [2, 3, 4, 5, 6] rfl (lz_tail C hR x4 (cd + mc2) (dd + ms3) S_1 v_5 f_5 g_5 h)
set_option maxHeartbeats 1000000 in
set_option maxRecDepth 20000 in
theorem lz_c28 (C : lC p l s m meth c b L xs D Y tp dp) (hL : L < 2 ^ 31) {R : Int32 → Nat → Nat → cS → (Nat → Int32) → (Nat → Nat → Int32) → (Nat → Nat → Int64) → Prop} (hR : ∀ (x4 : Int32) (cd dd : Nat) (S : cS) (v : Nat → Int32) (f : Nat → Nat → Int32) (g : Nat → Nat → Int64), R x4 cd dd S v f g → lG p l e s m below meth c b D Y cd dd 23 [(4, .int x4), (3, .ref out), (2, .ref (a 0)), (1, .ref x), (0, .ref b)] [] S a v f g) (x4 : Int32) (cd dd : Nat) (S : cS) (v : Nat → Int32) (f : Nat → Nat → Int32) (g : Nat → Nat → Int64) (h : lw_c28 R xs L dp x out x4 cd dd S v f g) : lG p l e s m below meth c b D Y cd dd 1588 [(4, .int x4), (3, .ref out), (2, .ref (a 0)), (1, .ref x), (0, .ref b)] [] S a v f g := by
  have hlt := C.2.2.2.2.2.2.2.2.2.2.1
  unfold lw_c28 at h
  refine lq_aload_n C (i := 1) rfl 3 rfl dL_law_1588 ?_
  refine lq_aload_n C (i := 0) rfl 4 rfl dL_law_1589 ?_
  refine lq_iload C 0 rfl dL_law_1590 ?_
  refine lq_iconst C (x := nI 1) rfl dL_law_1592 ?_
  refine lq_iadd C dL_law_1593 ?_
  obtain ⟨hc_1594, h⟩ := h
  refine lq_sldR C hL hc_1594 dL_law_1594 ?_
  refine lq_aload_n C (i := 0) rfl 4 rfl dL_law_1595 ?_
  refine lq_iload C 0 rfl dL_law_1596 ?_
  refine lq_iconst C (x := nI 2) rfl dL_law_1598 ?_
  refine lq_iadd C dL_law_1599 ?_
  obtain ⟨hc_1600, h⟩ := h
  refine lq_sldR C hL hc_1600 dL_law_1600 ?_
  refine lq_aload_n C (i := 0) rfl 4 rfl dL_law_1601 ?_
  refine lq_iload C 0 rfl dL_law_1602 ?_
  refine lq_iconst C (x := nI 3) rfl dL_law_1604 ?_
  refine lq_iadd C dL_law_1605 ?_
  obtain ⟨hc_1606, h⟩ := h
  refine lq_sldR C hL hc_1606 dL_law_1606 ?_
  refine lq_aload_n C (i := 0) rfl 4 rfl dL_law_1607 ?_
  refine lq_iload C 0 rfl dL_law_1608 ?_
  refine lq_iconst C (x := nI 4) rfl dL_law_1610 ?_
  refine lq_iadd C dL_law_1611 ?_
  obtain ⟨hc_1612, h⟩ := h
  refine lq_sldR C hL hc_1612 dL_law_1612 ?_
  refine lq_aload_n C (i := 3) rfl 1 rfl dL_law_1613 ?_
  obtain ⟨mc2, ms3, hm_, h⟩ := h
  refine lq_callW C (tw_L_signAt l hlt mc2 ms3 x ((xs ((x4 + ((nI 1)))).toNatClampNeg)) ((xs ((x4 + ((nI 2)))).toNatClampNeg)) ((xs ((x4 + ((nI 3)))).toNatClampNeg)) ((xs ((x4 + ((nI 4)))).toNatClampNeg)) out S dp h) lH_287 rfl rfl ⟨by decide, by decide⟩ hm_ rfl (Nat.le_of_ble_eq_true rfl) dL_law_1614 (fun r_1 S_1 h => ?_)
  refine lq_istore C (lv' := [(5, .int r_1), (4, .int x4), (3, .ref out), (2, .ref (a 0)), (1, .ref x), (0, .ref b)]) (by decide) rfl dL_law_1617 ?_
  refine lq_aload_n C (i := 2) rfl 3 rfl dL_law_1619 ?_
  refine lq_aload_n C (i := 0) rfl 5 rfl dL_law_1620 ?_
  refine lq_iload C 1 rfl dL_law_1621 ?_
  refine lq_iconst C (x := nI 1) rfl dL_law_1623 ?_
  refine lq_iadd C dL_law_1624 ?_
  obtain ⟨hc_1625, h⟩ := h
  refine lq_sldR C hL hc_1625 dL_law_1625 ?_
  refine lq_aload_n C (i := 0) rfl 5 rfl dL_law_1626 ?_
  refine lq_iload C 1 rfl dL_law_1627 ?_
  refine lq_iconst C (x := nI 2) rfl dL_law_1629 ?_
  refine lq_iadd C dL_law_1630 ?_
  obtain ⟨hc_1631, h⟩ := h
  refine lq_sldR C hL hc_1631 dL_law_1631 ?_
  refine lq_aload_n C (i := 0) rfl 5 rfl dL_law_1632 ?_
  refine lq_iload C 1 rfl dL_law_1633 ?_
  refine lq_iconst C (x := nI 3) rfl dL_law_1635 ?_
  refine lq_iadd C dL_law_1636 ?_
  obtain ⟨hc_1637, h⟩ := h
  refine lq_sldR C hL hc_1637 dL_law_1637 ?_
  refine lq_aload_n C (i := 0) rfl 5 rfl dL_law_1638 ?_
  refine lq_iload C 1 rfl dL_law_1639 ?_
  refine lq_iconst C (x := nI 4) rfl dL_law_1641 ?_
  refine lq_iadd C dL_law_1642 ?_
  obtain ⟨hc_1643, h⟩ := h
  refine lq_sldR C hL hc_1643 dL_law_1643 ?_
  obtain ⟨hc_1644, h⟩ := h
  refine lq_callMW C (s_signAt l ((xs ((x4 + ((nI 1)))).toNatClampNeg)) ((xs ((x4 + ((nI 2)))).toNatClampNeg)) ((xs ((x4 + ((nI 3)))).toNatClampNeg)) ((xs ((x4 + ((nI 4)))).toNatClampNeg)) v f g h) lM_290 rfl rfl ⟨by decide, by decide⟩ hc_1644 rfl (Nat.le_of_ble_eq_true rfl) dL_law_1644 (fun r_4 v_4 f_4 g_4 h => ?_)
  refine lq_istore C (lv' := [(6, .int r_4), (5, .int r_1), (4, .int x4), (3, .ref out), (2, .ref (a 0)), (1, .ref x), (0, .ref b)]) (by decide) rfl dL_law_1647 ?_
  refine lq_aload_n C (i := 2) rfl 4 rfl dL_law_1649 ?_
  obtain ⟨hc_1650, h⟩ := h
  refine lq_callMW C (s_thrown l  v_4 f_4 g_4 h) lM_192 rfl rfl ⟨by decide, by decide⟩ hc_1650 rfl (Nat.le_of_ble_eq_true rfl) dL_law_1650 (fun r_5 v_5 f_5 g_5 h => ?_)
  refine lq_iload C 1 rfl dL_law_1653 ?_
  obtain ⟨hc_1655, h⟩ := h
  refine lq_icmp_eq C 1660 (by decide) dL_law_1655 (fun _ => ?_) (fun c_ => absurd hc_1655 c_)
  refine lq_iload C 1 rfl dL_law_1660 ?_
  refine lq_if_ne C 1677 (by decide) dL_law_1662 (fun c_ => ?_) (fun c_ => ?_)
  · have h := h.1 c_
    refine lq_goto C 3491 (by decide) dL_law_1677 ?_
    exact lq_sub [2, 3, 4, 5, 6] rfl (lz_tail C hR x4 (cd + mc2) (dd + ms3) S_1 v_5 f_5 g_5 h)
  · have h := h.2 c_
    refine lq_aload_n C (i := 3) rfl 3 rfl dL_law_1665 ?_
    refine lq_iconst C (x := nI 0) rfl dL_law_1666 ?_
    obtain ⟨hc_1667, h⟩ := h
    refine lq_laloadR C hc_1667 dL_law_1667 ?_
    refine lq_iload C 0 rfl dL_law_1668 ?_
    refine lq_i2l C dL_law_1670 ?_
    refine lq_lcmp C dL_law_1671 ?_
    obtain ⟨hc_1672, h⟩ := h
    refine lq_if_eqC C 1677 (by decide) dL_law_1672 (fun _ => ?_) (fun c_ => absurd hc_1672 c_)
    refine lq_goto C 3491 (by decide) dL_law_1677 ?_
    exact lq_sub [2, 3, 4, 5, 6] rfl (lz_tail C hR x4 (cd + mc2) (dd + ms3) S_1 v_5 f_5 g_5 h)
set_option maxHeartbeats 1000000 in
set_option maxRecDepth 20000 in
theorem lz_c29 (C : lC p l s m meth c b L xs D Y tp dp) (hL : L < 2 ^ 31) {R : Int32 → Nat → Nat → cS → (Nat → Int32) → (Nat → Nat → Int32) → (Nat → Nat → Int64) → Prop} (hR : ∀ (x4 : Int32) (cd dd : Nat) (S : cS) (v : Nat → Int32) (f : Nat → Nat → Int32) (g : Nat → Nat → Int64), R x4 cd dd S v f g → lG p l e s m below meth c b D Y cd dd 23 [(4, .int x4), (3, .ref out), (2, .ref (a 0)), (1, .ref x), (0, .ref b)] [] S a v f g) (x4 : Int32) (cd dd : Nat) (S : cS) (v : Nat → Int32) (f : Nat → Nat → Int32) (g : Nat → Nat → Int64) (h : lw_c29 R xs L dp x out x4 cd dd S v f g) : lG p l e s m below meth c b D Y cd dd 1680 [(4, .int x4), (3, .ref out), (2, .ref (a 0)), (1, .ref x), (0, .ref b)] [] S a v f g := by
  have hlt := C.2.2.2.2.2.2.2.2.2.2.1
  unfold lw_c29 at h
  refine lq_aload_n C (i := 1) rfl 3 rfl dL_law_1680 ?_
  refine lq_aload_n C (i := 0) rfl 4 rfl dL_law_1681 ?_
  refine lq_iload C 0 rfl dL_law_1682 ?_
  refine lq_iconst C (x := nI 1) rfl dL_law_1684 ?_
  refine lq_iadd C dL_law_1685 ?_
  obtain ⟨hc_1686, h⟩ := h
  refine lq_sldR C hL hc_1686 dL_law_1686 ?_
  refine lq_aload_n C (i := 0) rfl 4 rfl dL_law_1687 ?_
  refine lq_iload C 0 rfl dL_law_1688 ?_
  refine lq_iconst C (x := nI 2) rfl dL_law_1690 ?_
  refine lq_iadd C dL_law_1691 ?_
  obtain ⟨hc_1692, h⟩ := h
  refine lq_sldR C hL hc_1692 dL_law_1692 ?_
  refine lq_aload_n C (i := 0) rfl 4 rfl dL_law_1693 ?_
  refine lq_iload C 0 rfl dL_law_1694 ?_
  refine lq_iconst C (x := nI 3) rfl dL_law_1696 ?_
  refine lq_iadd C dL_law_1697 ?_
  obtain ⟨hc_1698, h⟩ := h
  refine lq_sldR C hL hc_1698 dL_law_1698 ?_
  refine lq_aload_n C (i := 3) rfl 1 rfl dL_law_1699 ?_
  obtain ⟨mc2, ms3, hm_, h⟩ := h
  refine lq_callW C (tw_L_bytes l hlt mc2 ms3 x ((xs ((x4 + ((nI 1)))).toNatClampNeg)) ((xs ((x4 + ((nI 2)))).toNatClampNeg)) ((xs ((x4 + ((nI 3)))).toNatClampNeg)) out S dp h) lH_291 rfl rfl ⟨by decide, by decide⟩ hm_ rfl (Nat.le_of_ble_eq_true rfl) dL_law_1700 (fun r_1 S_1 h => ?_)
  refine lq_istore C (lv' := [(5, .int r_1), (4, .int x4), (3, .ref out), (2, .ref (a 0)), (1, .ref x), (0, .ref b)]) (by decide) rfl dL_law_1703 ?_
  refine lq_aload_n C (i := 2) rfl 3 rfl dL_law_1705 ?_
  refine lq_aload_n C (i := 0) rfl 5 rfl dL_law_1706 ?_
  refine lq_iload C 1 rfl dL_law_1707 ?_
  refine lq_iconst C (x := nI 1) rfl dL_law_1709 ?_
  refine lq_iadd C dL_law_1710 ?_
  obtain ⟨hc_1711, h⟩ := h
  refine lq_sldR C hL hc_1711 dL_law_1711 ?_
  refine lq_aload_n C (i := 0) rfl 5 rfl dL_law_1712 ?_
  refine lq_iload C 1 rfl dL_law_1713 ?_
  refine lq_iconst C (x := nI 2) rfl dL_law_1715 ?_
  refine lq_iadd C dL_law_1716 ?_
  obtain ⟨hc_1717, h⟩ := h
  refine lq_sldR C hL hc_1717 dL_law_1717 ?_
  refine lq_aload_n C (i := 0) rfl 5 rfl dL_law_1718 ?_
  refine lq_iload C 1 rfl dL_law_1719 ?_
  refine lq_iconst C (x := nI 3) rfl dL_law_1721 ?_
  refine lq_iadd C dL_law_1722 ?_
  obtain ⟨hc_1723, h⟩ := h
  refine lq_sldR C hL hc_1723 dL_law_1723 ?_
  obtain ⟨hc_1724, h⟩ := h
  refine lq_callMW C (s_bytes l ((xs ((x4 + ((nI 1)))).toNatClampNeg)) ((xs ((x4 + ((nI 2)))).toNatClampNeg)) ((xs ((x4 + ((nI 3)))).toNatClampNeg)) v f g h) lM_293 rfl rfl ⟨by decide, by decide⟩ hc_1724 rfl (Nat.le_of_ble_eq_true rfl) dL_law_1724 (fun r_4 v_4 f_4 g_4 h => ?_)
  refine lq_istore C (lv' := [(6, .int r_4), (5, .int r_1), (4, .int x4), (3, .ref out), (2, .ref (a 0)), (1, .ref x), (0, .ref b)]) (by decide) rfl dL_law_1727 ?_
  refine lq_aload_n C (i := 2) rfl 4 rfl dL_law_1729 ?_
  obtain ⟨hc_1730, h⟩ := h
  refine lq_callMW C (s_thrown l  v_4 f_4 g_4 h) lM_192 rfl rfl ⟨by decide, by decide⟩ hc_1730 rfl (Nat.le_of_ble_eq_true rfl) dL_law_1730 (fun r_5 v_5 f_5 g_5 h => ?_)
  refine lq_iload C 1 rfl dL_law_1733 ?_
  obtain ⟨hc_1735, h⟩ := h
  refine lq_icmp_eq C 1740 (by decide) dL_law_1735 (fun _ => ?_) (fun c_ => absurd hc_1735 c_)
  refine lq_iload C 1 rfl dL_law_1740 ?_
  refine lq_if_ne C 1757 (by decide) dL_law_1742 (fun c_ => ?_) (fun c_ => ?_)
  · have h := h.1 c_
    refine lq_goto C 3491 (by decide) dL_law_1757 ?_
    exact lq_sub [2, 3, 4, 5, 6] rfl (lz_tail C hR x4 (cd + mc2) (dd + ms3) S_1 v_5 f_5 g_5 h)
  · have h := h.2 c_
    refine lq_aload_n C (i := 3) rfl 3 rfl dL_law_1745 ?_
    refine lq_iconst C (x := nI 0) rfl dL_law_1746 ?_
    obtain ⟨hc_1747, h⟩ := h
    refine lq_laloadR C hc_1747 dL_law_1747 ?_
    refine lq_iload C 0 rfl dL_law_1748 ?_
    refine lq_i2l C dL_law_1750 ?_
    refine lq_lcmp C dL_law_1751 ?_
    obtain ⟨hc_1752, h⟩ := h
    refine lq_if_eqC C 1757 (by decide) dL_law_1752 (fun _ => ?_) (fun c_ => absurd hc_1752 c_)
    refine lq_goto C 3491 (by decide) dL_law_1757 ?_
    exact lq_sub [2, 3, 4, 5, 6] rfl (lz_tail C hR x4 (cd + mc2) (dd + ms3) S_1 v_5 f_5 g_5 h)
set_option maxHeartbeats 1000000 in
set_option maxRecDepth 20000 in
theorem lz_c30 (C : lC p l s m meth c b L xs D Y tp dp) (hL : L < 2 ^ 31) {R : Int32 → Nat → Nat → cS → (Nat → Int32) → (Nat → Nat → Int32) → (Nat → Nat → Int64) → Prop} (hR : ∀ (x4 : Int32) (cd dd : Nat) (S : cS) (v : Nat → Int32) (f : Nat → Nat → Int32) (g : Nat → Nat → Int64), R x4 cd dd S v f g → lG p l e s m below meth c b D Y cd dd 23 [(4, .int x4), (3, .ref out), (2, .ref (a 0)), (1, .ref x), (0, .ref b)] [] S a v f g) (x4 : Int32) (cd dd : Nat) (S : cS) (v : Nat → Int32) (f : Nat → Nat → Int32) (g : Nat → Nat → Int64) (h : lw_c30 R xs L dp x out x4 cd dd S v f g) : lG p l e s m below meth c b D Y cd dd 1760 [(4, .int x4), (3, .ref out), (2, .ref (a 0)), (1, .ref x), (0, .ref b)] [] S a v f g := by
  have hlt := C.2.2.2.2.2.2.2.2.2.2.1
  unfold lw_c30 at h
  refine lq_aload_n C (i := 1) rfl 3 rfl dL_law_1760 ?_
  refine lq_aload_n C (i := 0) rfl 4 rfl dL_law_1761 ?_
  refine lq_iload C 0 rfl dL_law_1762 ?_
  refine lq_iconst C (x := nI 1) rfl dL_law_1764 ?_
  refine lq_iadd C dL_law_1765 ?_
  obtain ⟨hc_1766, h⟩ := h
  refine lq_sldR C hL hc_1766 dL_law_1766 ?_
  refine lq_aload_n C (i := 0) rfl 4 rfl dL_law_1767 ?_
  refine lq_iload C 0 rfl dL_law_1768 ?_
  refine lq_iconst C (x := nI 2) rfl dL_law_1770 ?_
  refine lq_iadd C dL_law_1771 ?_
  obtain ⟨hc_1772, h⟩ := h
  refine lq_sldR C hL hc_1772 dL_law_1772 ?_
  refine lq_aload_n C (i := 0) rfl 4 rfl dL_law_1773 ?_
  refine lq_iload C 0 rfl dL_law_1774 ?_
  refine lq_iconst C (x := nI 3) rfl dL_law_1776 ?_
  refine lq_iadd C dL_law_1777 ?_
  obtain ⟨hc_1778, h⟩ := h
  refine lq_sldR C hL hc_1778 dL_law_1778 ?_
  refine lq_aload_n C (i := 0) rfl 4 rfl dL_law_1779 ?_
  refine lq_iload C 0 rfl dL_law_1780 ?_
  refine lq_iconst C (x := nI 4) rfl dL_law_1782 ?_
  refine lq_iadd C dL_law_1783 ?_
  obtain ⟨hc_1784, h⟩ := h
  refine lq_sldR C hL hc_1784 dL_law_1784 ?_
  refine lq_aload_n C (i := 3) rfl 1 rfl dL_law_1785 ?_
  obtain ⟨mc2, ms3, hm_, h⟩ := h
  refine lq_callW C (tw_L_byteAt l hlt mc2 ms3 x ((xs ((x4 + ((nI 1)))).toNatClampNeg)) ((xs ((x4 + ((nI 2)))).toNatClampNeg)) ((xs ((x4 + ((nI 3)))).toNatClampNeg)) ((xs ((x4 + ((nI 4)))).toNatClampNeg)) out S dp h) lH_294 rfl rfl ⟨by decide, by decide⟩ hm_ rfl (Nat.le_of_ble_eq_true rfl) dL_law_1786 (fun r_1 S_1 h => ?_)
  refine lq_istore C (lv' := [(5, .int r_1), (4, .int x4), (3, .ref out), (2, .ref (a 0)), (1, .ref x), (0, .ref b)]) (by decide) rfl dL_law_1789 ?_
  refine lq_aload_n C (i := 2) rfl 3 rfl dL_law_1791 ?_
  refine lq_aload_n C (i := 0) rfl 5 rfl dL_law_1792 ?_
  refine lq_iload C 1 rfl dL_law_1793 ?_
  refine lq_iconst C (x := nI 1) rfl dL_law_1795 ?_
  refine lq_iadd C dL_law_1796 ?_
  obtain ⟨hc_1797, h⟩ := h
  refine lq_sldR C hL hc_1797 dL_law_1797 ?_
  refine lq_aload_n C (i := 0) rfl 5 rfl dL_law_1798 ?_
  refine lq_iload C 1 rfl dL_law_1799 ?_
  refine lq_iconst C (x := nI 2) rfl dL_law_1801 ?_
  refine lq_iadd C dL_law_1802 ?_
  obtain ⟨hc_1803, h⟩ := h
  refine lq_sldR C hL hc_1803 dL_law_1803 ?_
  refine lq_aload_n C (i := 0) rfl 5 rfl dL_law_1804 ?_
  refine lq_iload C 1 rfl dL_law_1805 ?_
  refine lq_iconst C (x := nI 3) rfl dL_law_1807 ?_
  refine lq_iadd C dL_law_1808 ?_
  obtain ⟨hc_1809, h⟩ := h
  refine lq_sldR C hL hc_1809 dL_law_1809 ?_
  refine lq_aload_n C (i := 0) rfl 5 rfl dL_law_1810 ?_
  refine lq_iload C 1 rfl dL_law_1811 ?_
  refine lq_iconst C (x := nI 4) rfl dL_law_1813 ?_
  refine lq_iadd C dL_law_1814 ?_
  obtain ⟨hc_1815, h⟩ := h
  refine lq_sldR C hL hc_1815 dL_law_1815 ?_
  obtain ⟨hc_1816, h⟩ := h
  refine lq_callMW C (s_byteAt l ((xs ((x4 + ((nI 1)))).toNatClampNeg)) ((xs ((x4 + ((nI 2)))).toNatClampNeg)) ((xs ((x4 + ((nI 3)))).toNatClampNeg)) ((xs ((x4 + ((nI 4)))).toNatClampNeg)) v f g h) lM_296 rfl rfl ⟨by decide, by decide⟩ hc_1816 rfl (Nat.le_of_ble_eq_true rfl) dL_law_1816 (fun r_4 v_4 f_4 g_4 h => ?_)
  refine lq_istore C (lv' := [(6, .int r_4), (5, .int r_1), (4, .int x4), (3, .ref out), (2, .ref (a 0)), (1, .ref x), (0, .ref b)]) (by decide) rfl dL_law_1819 ?_
  refine lq_aload_n C (i := 2) rfl 4 rfl dL_law_1821 ?_
  obtain ⟨hc_1822, h⟩ := h
  refine lq_callMW C (s_thrown l  v_4 f_4 g_4 h) lM_192 rfl rfl ⟨by decide, by decide⟩ hc_1822 rfl (Nat.le_of_ble_eq_true rfl) dL_law_1822 (fun r_5 v_5 f_5 g_5 h => ?_)
  refine lq_iload C 1 rfl dL_law_1825 ?_
  obtain ⟨hc_1827, h⟩ := h
  refine lq_icmp_eq C 1832 (by decide) dL_law_1827 (fun _ => ?_) (fun c_ => absurd hc_1827 c_)
  refine lq_iload C 1 rfl dL_law_1832 ?_
  refine lq_if_ne C 1849 (by decide) dL_law_1834 (fun c_ => ?_) (fun c_ => ?_)
  · have h := h.1 c_
    refine lq_goto C 3491 (by decide) dL_law_1849 ?_
    exact lq_sub [2, 3, 4, 5, 6] rfl (lz_tail C hR x4 (cd + mc2) (dd + ms3) S_1 v_5 f_5 g_5 h)
  · have h := h.2 c_
    refine lq_aload_n C (i := 3) rfl 3 rfl dL_law_1837 ?_
    refine lq_iconst C (x := nI 0) rfl dL_law_1838 ?_
    obtain ⟨hc_1839, h⟩ := h
    refine lq_laloadR C hc_1839 dL_law_1839 ?_
    refine lq_iload C 0 rfl dL_law_1840 ?_
    refine lq_i2l C dL_law_1842 ?_
    refine lq_lcmp C dL_law_1843 ?_
    obtain ⟨hc_1844, h⟩ := h
    refine lq_if_eqC C 1849 (by decide) dL_law_1844 (fun _ => ?_) (fun c_ => absurd hc_1844 c_)
    refine lq_goto C 3491 (by decide) dL_law_1849 ?_
    exact lq_sub [2, 3, 4, 5, 6] rfl (lz_tail C hR x4 (cd + mc2) (dd + ms3) S_1 v_5 f_5 g_5 h)
set_option maxHeartbeats 1000000 in
set_option maxRecDepth 20000 in
theorem lz_c31 (C : lC p l s m meth c b L xs D Y tp dp) (hL : L < 2 ^ 31) {R : Int32 → Nat → Nat → cS → (Nat → Int32) → (Nat → Nat → Int32) → (Nat → Nat → Int64) → Prop} (hR : ∀ (x4 : Int32) (cd dd : Nat) (S : cS) (v : Nat → Int32) (f : Nat → Nat → Int32) (g : Nat → Nat → Int64), R x4 cd dd S v f g → lG p l e s m below meth c b D Y cd dd 23 [(4, .int x4), (3, .ref out), (2, .ref (a 0)), (1, .ref x), (0, .ref b)] [] S a v f g) (x4 : Int32) (cd dd : Nat) (S : cS) (v : Nat → Int32) (f : Nat → Nat → Int32) (g : Nat → Nat → Int64) (h : lw_c31 R xs L dp x out x4 cd dd S v f g) : lG p l e s m below meth c b D Y cd dd 1852 [(4, .int x4), (3, .ref out), (2, .ref (a 0)), (1, .ref x), (0, .ref b)] [] S a v f g := by
  have hlt := C.2.2.2.2.2.2.2.2.2.2.1
  unfold lw_c31 at h
  refine lq_aload_n C (i := 1) rfl 3 rfl dL_law_1852 ?_
  refine lq_aload_n C (i := 0) rfl 4 rfl dL_law_1853 ?_
  refine lq_iload C 0 rfl dL_law_1854 ?_
  refine lq_iconst C (x := nI 1) rfl dL_law_1856 ?_
  refine lq_iadd C dL_law_1857 ?_
  obtain ⟨hc_1858, h⟩ := h
  refine lq_sldR C hL hc_1858 dL_law_1858 ?_
  refine lq_if_eq C 1866 (by decide) dL_law_1859 (fun c_ => ?_) (fun c_ => ?_)
  · have h := h.1 c_
    refine lq_iconst C (x := nI 0) rfl dL_law_1866 ?_
    refine lq_aload_n C (i := 3) rfl 1 rfl dL_law_1867 ?_
    obtain ⟨mc2, ms3, hm_, h⟩ := h
    refine lq_callW C (tw_L_look l hlt mc2 ms3 x ((nI 0)) out S dp h) lH_297 rfl rfl ⟨by decide, by decide⟩ hm_ rfl (Nat.le_of_ble_eq_true rfl) dL_law_1868 (fun r_1 S_1 h => ?_)
    refine lq_istore C (lv' := [(5, .int r_1), (4, .int x4), (3, .ref out), (2, .ref (a 0)), (1, .ref x), (0, .ref b)]) (by decide) rfl dL_law_1871 ?_
    refine lq_aload_n C (i := 2) rfl 3 rfl dL_law_1873 ?_
    refine lq_aload_n C (i := 0) rfl 5 rfl dL_law_1874 ?_
    refine lq_iload C 1 rfl dL_law_1875 ?_
    refine lq_iconst C (x := nI 1) rfl dL_law_1877 ?_
    refine lq_iadd C dL_law_1878 ?_
    obtain ⟨hc_1879, h⟩ := h
    refine lq_sldR C hL hc_1879 dL_law_1879 ?_
    refine lq_if_eq C 1887 (by decide) dL_law_1880 (fun c_ => ?_) (fun c_ => ?_)
    · have h := h.1 c_
      refine lq_iconst C (x := nI 0) rfl dL_law_1887 ?_
      obtain ⟨hc_1888, h⟩ := h
      refine lq_callMW C (s_look l ((nI 0)) v f g h) lM_300 rfl rfl ⟨by decide, by decide⟩ hc_1888 rfl (Nat.le_of_ble_eq_true rfl) dL_law_1888 (fun r_4 v_4 f_4 g_4 h => ?_)
      refine lq_istore C (lv' := [(6, .int r_4), (5, .int r_1), (4, .int x4), (3, .ref out), (2, .ref (a 0)), (1, .ref x), (0, .ref b)]) (by decide) rfl dL_law_1891 ?_
      refine lq_aload_n C (i := 2) rfl 4 rfl dL_law_1893 ?_
      obtain ⟨hc_1894, h⟩ := h
      refine lq_callMW C (s_thrown l  v_4 f_4 g_4 h) lM_192 rfl rfl ⟨by decide, by decide⟩ hc_1894 rfl (Nat.le_of_ble_eq_true rfl) dL_law_1894 (fun r_5 v_5 f_5 g_5 h => ?_)
      refine lq_iload C 1 rfl dL_law_1897 ?_
      obtain ⟨hc_1899, h⟩ := h
      refine lq_icmp_eq C 1904 (by decide) dL_law_1899 (fun _ => ?_) (fun c_ => absurd hc_1899 c_)
      refine lq_iload C 1 rfl dL_law_1904 ?_
      refine lq_if_ne C 1921 (by decide) dL_law_1906 (fun c_ => ?_) (fun c_ => ?_)
      · have h := h.1 c_
        refine lq_goto C 3491 (by decide) dL_law_1921 ?_
        exact lq_sub [2, 3, 4, 5, 6] rfl (lz_tail C hR x4 (cd + mc2) (dd + ms3) S_1 v_5 f_5 g_5 h)
      · have h := h.2 c_
        refine lq_aload_n C (i := 3) rfl 3 rfl dL_law_1909 ?_
        refine lq_iconst C (x := nI 0) rfl dL_law_1910 ?_
        obtain ⟨hc_1911, h⟩ := h
        refine lq_laloadR C hc_1911 dL_law_1911 ?_
        refine lq_iload C 0 rfl dL_law_1912 ?_
        refine lq_i2l C dL_law_1914 ?_
        refine lq_lcmp C dL_law_1915 ?_
        obtain ⟨hc_1916, h⟩ := h
        refine lq_if_eqC C 1921 (by decide) dL_law_1916 (fun _ => ?_) (fun c_ => absurd hc_1916 c_)
        refine lq_goto C 3491 (by decide) dL_law_1921 ?_
        exact lq_sub [2, 3, 4, 5, 6] rfl (lz_tail C hR x4 (cd + mc2) (dd + ms3) S_1 v_5 f_5 g_5 h)
    · have h := h.2 c_
      refine lq_iconst C (x := nI 1) rfl dL_law_1883 ?_
      refine lq_goto C 1888 (by decide) dL_law_1884 ?_
      obtain ⟨hc_1888, h⟩ := h
      refine lq_callMW C (s_look l ((nI 1)) v f g h) lM_300 rfl rfl ⟨by decide, by decide⟩ hc_1888 rfl (Nat.le_of_ble_eq_true rfl) dL_law_1888 (fun r_6 v_6 f_6 g_6 h => ?_)
      refine lq_istore C (lv' := [(6, .int r_6), (5, .int r_1), (4, .int x4), (3, .ref out), (2, .ref (a 0)), (1, .ref x), (0, .ref b)]) (by decide) rfl dL_law_1891 ?_
      refine lq_aload_n C (i := 2) rfl 4 rfl dL_law_1893 ?_
      obtain ⟨hc_1894, h⟩ := h
      refine lq_callMW C (s_thrown l  v_6 f_6 g_6 h) lM_192 rfl rfl ⟨by decide, by decide⟩ hc_1894 rfl (Nat.le_of_ble_eq_true rfl) dL_law_1894 (fun r_7 v_7 f_7 g_7 h => ?_)
      refine lq_iload C 1 rfl dL_law_1897 ?_
      obtain ⟨hc_1899, h⟩ := h
      refine lq_icmp_eq C 1904 (by decide) dL_law_1899 (fun _ => ?_) (fun c_ => absurd hc_1899 c_)
      refine lq_iload C 1 rfl dL_law_1904 ?_
      refine lq_if_ne C 1921 (by decide) dL_law_1906 (fun c_ => ?_) (fun c_ => ?_)
      · have h := h.1 c_
        refine lq_goto C 3491 (by decide) dL_law_1921 ?_
        exact lq_sub [2, 3, 4, 5, 6] rfl (lz_tail C hR x4 (cd + mc2) (dd + ms3) S_1 v_7 f_7 g_7 h)
      · have h := h.2 c_
        refine lq_aload_n C (i := 3) rfl 3 rfl dL_law_1909 ?_
        refine lq_iconst C (x := nI 0) rfl dL_law_1910 ?_
        obtain ⟨hc_1911, h⟩ := h
        refine lq_laloadR C hc_1911 dL_law_1911 ?_
        refine lq_iload C 0 rfl dL_law_1912 ?_
        refine lq_i2l C dL_law_1914 ?_
        refine lq_lcmp C dL_law_1915 ?_
        obtain ⟨hc_1916, h⟩ := h
        refine lq_if_eqC C 1921 (by decide) dL_law_1916 (fun _ => ?_) (fun c_ => absurd hc_1916 c_)
        refine lq_goto C 3491 (by decide) dL_law_1921 ?_
        exact lq_sub [2, 3, 4, 5, 6] rfl (lz_tail C hR x4 (cd + mc2) (dd + ms3) S_1 v_7 f_7 g_7 h)
  · have h := h.2 c_
    refine lq_iconst C (x := nI 1) rfl dL_law_1862 ?_
    refine lq_goto C 1867 (by decide) dL_law_1863 ?_
    refine lq_aload_n C (i := 3) rfl 1 rfl dL_law_1867 ?_
    obtain ⟨mc9, ms10, hm_, h⟩ := h
    refine lq_callW C (tw_L_look l hlt mc9 ms10 x ((nI 1)) out S dp h) lH_297 rfl rfl ⟨by decide, by decide⟩ hm_ rfl (Nat.le_of_ble_eq_true rfl) dL_law_1868 (fun r_8 S_8 h => ?_)
    refine lq_istore C (lv' := [(5, .int r_8), (4, .int x4), (3, .ref out), (2, .ref (a 0)), (1, .ref x), (0, .ref b)]) (by decide) rfl dL_law_1871 ?_
    refine lq_aload_n C (i := 2) rfl 3 rfl dL_law_1873 ?_
    refine lq_aload_n C (i := 0) rfl 5 rfl dL_law_1874 ?_
    refine lq_iload C 1 rfl dL_law_1875 ?_
    refine lq_iconst C (x := nI 1) rfl dL_law_1877 ?_
    refine lq_iadd C dL_law_1878 ?_
    obtain ⟨hc_1879, h⟩ := h
    refine lq_sldR C hL hc_1879 dL_law_1879 ?_
    refine lq_if_eq C 1887 (by decide) dL_law_1880 (fun c_ => ?_) (fun c_ => ?_)
    · have h := h.1 c_
      refine lq_iconst C (x := nI 0) rfl dL_law_1887 ?_
      obtain ⟨hc_1888, h⟩ := h
      refine lq_callMW C (s_look l ((nI 0)) v f g h) lM_300 rfl rfl ⟨by decide, by decide⟩ hc_1888 rfl (Nat.le_of_ble_eq_true rfl) dL_law_1888 (fun r_11 v_11 f_11 g_11 h => ?_)
      refine lq_istore C (lv' := [(6, .int r_11), (5, .int r_8), (4, .int x4), (3, .ref out), (2, .ref (a 0)), (1, .ref x), (0, .ref b)]) (by decide) rfl dL_law_1891 ?_
      refine lq_aload_n C (i := 2) rfl 4 rfl dL_law_1893 ?_
      obtain ⟨hc_1894, h⟩ := h
      refine lq_callMW C (s_thrown l  v_11 f_11 g_11 h) lM_192 rfl rfl ⟨by decide, by decide⟩ hc_1894 rfl (Nat.le_of_ble_eq_true rfl) dL_law_1894 (fun r_12 v_12 f_12 g_12 h => ?_)
      refine lq_iload C 1 rfl dL_law_1897 ?_
      obtain ⟨hc_1899, h⟩ := h
      refine lq_icmp_eq C 1904 (by decide) dL_law_1899 (fun _ => ?_) (fun c_ => absurd hc_1899 c_)
      refine lq_iload C 1 rfl dL_law_1904 ?_
      refine lq_if_ne C 1921 (by decide) dL_law_1906 (fun c_ => ?_) (fun c_ => ?_)
      · have h := h.1 c_
        refine lq_goto C 3491 (by decide) dL_law_1921 ?_
        exact lq_sub [2, 3, 4, 5, 6] rfl (lz_tail C hR x4 (cd + mc9) (dd + ms10) S_8 v_12 f_12 g_12 h)
      · have h := h.2 c_
        refine lq_aload_n C (i := 3) rfl 3 rfl dL_law_1909 ?_
        refine lq_iconst C (x := nI 0) rfl dL_law_1910 ?_
        obtain ⟨hc_1911, h⟩ := h
        refine lq_laloadR C hc_1911 dL_law_1911 ?_
        refine lq_iload C 0 rfl dL_law_1912 ?_
        refine lq_i2l C dL_law_1914 ?_
        refine lq_lcmp C dL_law_1915 ?_
        obtain ⟨hc_1916, h⟩ := h
        refine lq_if_eqC C 1921 (by decide) dL_law_1916 (fun _ => ?_) (fun c_ => absurd hc_1916 c_)
        refine lq_goto C 3491 (by decide) dL_law_1921 ?_
        exact lq_sub [2, 3, 4, 5, 6] rfl (lz_tail C hR x4 (cd + mc9) (dd + ms10) S_8 v_12 f_12 g_12 h)
    · have h := h.2 c_
      refine lq_iconst C (x := nI 1) rfl dL_law_1883 ?_
      refine lq_goto C 1888 (by decide) dL_law_1884 ?_
      obtain ⟨hc_1888, h⟩ := h
      refine lq_callMW C (s_look l ((nI 1)) v f g h) lM_300 rfl rfl ⟨by decide, by decide⟩ hc_1888 rfl (Nat.le_of_ble_eq_true rfl) dL_law_1888 (fun r_13 v_13 f_13 g_13 h => ?_)
      refine lq_istore C (lv' := [(6, .int r_13), (5, .int r_8), (4, .int x4), (3, .ref out), (2, .ref (a 0)), (1, .ref x), (0, .ref b)]) (by decide) rfl dL_law_1891 ?_
      refine lq_aload_n C (i := 2) rfl 4 rfl dL_law_1893 ?_
      obtain ⟨hc_1894, h⟩ := h
      refine lq_callMW C (s_thrown l  v_13 f_13 g_13 h) lM_192 rfl rfl ⟨by decide, by decide⟩ hc_1894 rfl (Nat.le_of_ble_eq_true rfl) dL_law_1894 (fun r_14 v_14 f_14 g_14 h => ?_)
      refine lq_iload C 1 rfl dL_law_1897 ?_
      obtain ⟨hc_1899, h⟩ := h
      refine lq_icmp_eq C 1904 (by decide) dL_law_1899 (fun _ => ?_) (fun c_ => absurd hc_1899 c_)
      refine lq_iload C 1 rfl dL_law_1904 ?_
      refine lq_if_ne C 1921 (by decide) dL_law_1906 (fun c_ => ?_) (fun c_ => ?_)
      · have h := h.1 c_
        refine lq_goto C 3491 (by decide) dL_law_1921 ?_
        exact lq_sub [2, 3, 4, 5, 6] rfl (lz_tail C hR x4 (cd + mc9) (dd + ms10) S_8 v_14 f_14 g_14 h)
      · have h := h.2 c_
        refine lq_aload_n C (i := 3) rfl 3 rfl dL_law_1909 ?_
        refine lq_iconst C (x := nI 0) rfl dL_law_1910 ?_
        obtain ⟨hc_1911, h⟩ := h
        refine lq_laloadR C hc_1911 dL_law_1911 ?_
        refine lq_iload C 0 rfl dL_law_1912 ?_
        refine lq_i2l C dL_law_1914 ?_
        refine lq_lcmp C dL_law_1915 ?_
        obtain ⟨hc_1916, h⟩ := h
        refine lq_if_eqC C 1921 (by decide) dL_law_1916 (fun _ => ?_) (fun c_ => absurd hc_1916 c_)
        refine lq_goto C 3491 (by decide) dL_law_1921 ?_
        exact lq_sub [2, 3, 4, 5, 6] rfl (lz_tail C hR x4 (cd + mc9) (dd + ms10) S_8 v_14 f_14 g_14 h)
set_option maxHeartbeats 1000000 in
set_option maxRecDepth 20000 in
theorem lz_c32 (C : lC p l s m meth c b L xs D Y tp dp) (hL : L < 2 ^ 31) {R : Int32 → Nat → Nat → cS → (Nat → Int32) → (Nat → Nat → Int32) → (Nat → Nat → Int64) → Prop} (hR : ∀ (x4 : Int32) (cd dd : Nat) (S : cS) (v : Nat → Int32) (f : Nat → Nat → Int32) (g : Nat → Nat → Int64), R x4 cd dd S v f g → lG p l e s m below meth c b D Y cd dd 23 [(4, .int x4), (3, .ref out), (2, .ref (a 0)), (1, .ref x), (0, .ref b)] [] S a v f g) (x4 : Int32) (cd dd : Nat) (S : cS) (v : Nat → Int32) (f : Nat → Nat → Int32) (g : Nat → Nat → Int64) (h : lw_c32 R xs L dp x out x4 cd dd S v f g) : lG p l e s m below meth c b D Y cd dd 1924 [(4, .int x4), (3, .ref out), (2, .ref (a 0)), (1, .ref x), (0, .ref b)] [] S a v f g := by
  have hlt := C.2.2.2.2.2.2.2.2.2.2.1
  unfold lw_c32 at h
  refine lq_aload_n C (i := 1) rfl 3 rfl dL_law_1924 ?_
  refine lq_aload_n C (i := 0) rfl 4 rfl dL_law_1925 ?_
  refine lq_iload C 0 rfl dL_law_1926 ?_
  refine lq_iconst C (x := nI 1) rfl dL_law_1928 ?_
  refine lq_iadd C dL_law_1929 ?_
  obtain ⟨hc_1930, h⟩ := h
  refine lq_sldR C hL hc_1930 dL_law_1930 ?_
  refine lq_aload_n C (i := 3) rfl 1 rfl dL_law_1931 ?_
  obtain ⟨mc2, ms3, hm_, h⟩ := h
  refine lq_callW C (tw_L_shut l hlt mc2 ms3 x ((xs ((x4 + ((nI 1)))).toNatClampNeg)) out S dp h) lH_301 rfl rfl ⟨by decide, by decide⟩ hm_ rfl (Nat.le_of_ble_eq_true rfl) dL_law_1932 (fun r_1 S_1 h => ?_)
  refine lq_istore C (lv' := [(5, .int r_1), (4, .int x4), (3, .ref out), (2, .ref (a 0)), (1, .ref x), (0, .ref b)]) (by decide) rfl dL_law_1935 ?_
  refine lq_aload_n C (i := 2) rfl 3 rfl dL_law_1937 ?_
  refine lq_aload_n C (i := 0) rfl 5 rfl dL_law_1938 ?_
  refine lq_iload C 1 rfl dL_law_1939 ?_
  refine lq_iconst C (x := nI 1) rfl dL_law_1941 ?_
  refine lq_iadd C dL_law_1942 ?_
  obtain ⟨hc_1943, h⟩ := h
  refine lq_sldR C hL hc_1943 dL_law_1943 ?_
  obtain ⟨hc_1944, h⟩ := h
  refine lq_callMW C (s_shut l ((xs ((x4 + ((nI 1)))).toNatClampNeg)) v f g h) lM_303 rfl rfl ⟨by decide, by decide⟩ hc_1944 rfl (Nat.le_of_ble_eq_true rfl) dL_law_1944 (fun r_4 v_4 f_4 g_4 h => ?_)
  refine lq_istore C (lv' := [(6, .int r_4), (5, .int r_1), (4, .int x4), (3, .ref out), (2, .ref (a 0)), (1, .ref x), (0, .ref b)]) (by decide) rfl dL_law_1947 ?_
  refine lq_aload_n C (i := 2) rfl 4 rfl dL_law_1949 ?_
  obtain ⟨hc_1950, h⟩ := h
  refine lq_callMW C (s_thrown l  v_4 f_4 g_4 h) lM_192 rfl rfl ⟨by decide, by decide⟩ hc_1950 rfl (Nat.le_of_ble_eq_true rfl) dL_law_1950 (fun r_5 v_5 f_5 g_5 h => ?_)
  refine lq_iload C 1 rfl dL_law_1953 ?_
  obtain ⟨hc_1955, h⟩ := h
  refine lq_icmp_eq C 1960 (by decide) dL_law_1955 (fun _ => ?_) (fun c_ => absurd hc_1955 c_)
  refine lq_iload C 1 rfl dL_law_1960 ?_
  refine lq_if_ne C 1977 (by decide) dL_law_1962 (fun c_ => ?_) (fun c_ => ?_)
  · have h := h.1 c_
    refine lq_goto C 3491 (by decide) dL_law_1977 ?_
    exact lq_sub [2, 3, 4, 5, 6] rfl (lz_tail C hR x4 (cd + mc2) (dd + ms3) S_1 v_5 f_5 g_5 h)
  · have h := h.2 c_
    refine lq_aload_n C (i := 3) rfl 3 rfl dL_law_1965 ?_
    refine lq_iconst C (x := nI 0) rfl dL_law_1966 ?_
    obtain ⟨hc_1967, h⟩ := h
    refine lq_laloadR C hc_1967 dL_law_1967 ?_
    refine lq_iload C 0 rfl dL_law_1968 ?_
    refine lq_i2l C dL_law_1970 ?_
    refine lq_lcmp C dL_law_1971 ?_
    obtain ⟨hc_1972, h⟩ := h
    refine lq_if_eqC C 1977 (by decide) dL_law_1972 (fun _ => ?_) (fun c_ => absurd hc_1972 c_)
    refine lq_goto C 3491 (by decide) dL_law_1977 ?_
    exact lq_sub [2, 3, 4, 5, 6] rfl (lz_tail C hR x4 (cd + mc2) (dd + ms3) S_1 v_5 f_5 g_5 h)
set_option maxHeartbeats 1000000 in
set_option maxRecDepth 20000 in
theorem lz_c33 (C : lC p l s m meth c b L xs D Y tp dp) (hL : L < 2 ^ 31) {R : Int32 → Nat → Nat → cS → (Nat → Int32) → (Nat → Nat → Int32) → (Nat → Nat → Int64) → Prop} (hR : ∀ (x4 : Int32) (cd dd : Nat) (S : cS) (v : Nat → Int32) (f : Nat → Nat → Int32) (g : Nat → Nat → Int64), R x4 cd dd S v f g → lG p l e s m below meth c b D Y cd dd 23 [(4, .int x4), (3, .ref out), (2, .ref (a 0)), (1, .ref x), (0, .ref b)] [] S a v f g) (x4 : Int32) (cd dd : Nat) (S : cS) (v : Nat → Int32) (f : Nat → Nat → Int32) (g : Nat → Nat → Int64) (h : lw_c33 R xs L dp x out x4 cd dd S v f g) : lG p l e s m below meth c b D Y cd dd 1980 [(4, .int x4), (3, .ref out), (2, .ref (a 0)), (1, .ref x), (0, .ref b)] [] S a v f g := by
  have hlt := C.2.2.2.2.2.2.2.2.2.2.1
  unfold lw_c33 at h
  refine lq_aload_n C (i := 1) rfl 3 rfl dL_law_1980 ?_
  refine lq_aload_n C (i := 0) rfl 4 rfl dL_law_1981 ?_
  refine lq_iload C 0 rfl dL_law_1982 ?_
  refine lq_iconst C (x := nI 1) rfl dL_law_1984 ?_
  refine lq_iadd C dL_law_1985 ?_
  obtain ⟨hc_1986, h⟩ := h
  refine lq_sldR C hL hc_1986 dL_law_1986 ?_
  refine lq_aload_n C (i := 3) rfl 1 rfl dL_law_1987 ?_
  obtain ⟨mc2, ms3, hm_, h⟩ := h
  refine lq_callW C (tw_L_documents l hlt mc2 ms3 x ((xs ((x4 + ((nI 1)))).toNatClampNeg)) out S dp h) lH_304 rfl rfl ⟨by decide, by decide⟩ hm_ rfl (Nat.le_of_ble_eq_true rfl) dL_law_1988 (fun r_1 S_1 h => ?_)
  refine lq_istore C (lv' := [(5, .int r_1), (4, .int x4), (3, .ref out), (2, .ref (a 0)), (1, .ref x), (0, .ref b)]) (by decide) rfl dL_law_1991 ?_
  refine lq_aload_n C (i := 2) rfl 3 rfl dL_law_1993 ?_
  refine lq_aload_n C (i := 0) rfl 5 rfl dL_law_1994 ?_
  refine lq_iload C 1 rfl dL_law_1995 ?_
  refine lq_iconst C (x := nI 1) rfl dL_law_1997 ?_
  refine lq_iadd C dL_law_1998 ?_
  obtain ⟨hc_1999, h⟩ := h
  refine lq_sldR C hL hc_1999 dL_law_1999 ?_
  obtain ⟨hc_2000, h⟩ := h
  refine lq_callMW C (s_documents l ((xs ((x4 + ((nI 1)))).toNatClampNeg)) v f g h) lM_306 rfl rfl ⟨by decide, by decide⟩ hc_2000 rfl (Nat.le_of_ble_eq_true rfl) dL_law_2000 (fun r_4 v_4 f_4 g_4 h => ?_)
  refine lq_istore C (lv' := [(6, .int r_4), (5, .int r_1), (4, .int x4), (3, .ref out), (2, .ref (a 0)), (1, .ref x), (0, .ref b)]) (by decide) rfl dL_law_2003 ?_
  refine lq_aload_n C (i := 2) rfl 4 rfl dL_law_2005 ?_
  obtain ⟨hc_2006, h⟩ := h
  refine lq_callMW C (s_thrown l  v_4 f_4 g_4 h) lM_192 rfl rfl ⟨by decide, by decide⟩ hc_2006 rfl (Nat.le_of_ble_eq_true rfl) dL_law_2006 (fun r_5 v_5 f_5 g_5 h => ?_)
  refine lq_iload C 1 rfl dL_law_2009 ?_
  obtain ⟨hc_2011, h⟩ := h
  refine lq_icmp_eq C 2016 (by decide) dL_law_2011 (fun _ => ?_) (fun c_ => absurd hc_2011 c_)
  refine lq_iload C 1 rfl dL_law_2016 ?_
  refine lq_if_ne C 2033 (by decide) dL_law_2018 (fun c_ => ?_) (fun c_ => ?_)
  · have h := h.1 c_
    refine lq_goto C 3491 (by decide) dL_law_2033 ?_
    exact lq_sub [2, 3, 4, 5, 6] rfl (lz_tail C hR x4 (cd + mc2) (dd + ms3) S_1 v_5 f_5 g_5 h)
  · have h := h.2 c_
    refine lq_aload_n C (i := 3) rfl 3 rfl dL_law_2021 ?_
    refine lq_iconst C (x := nI 0) rfl dL_law_2022 ?_
    obtain ⟨hc_2023, h⟩ := h
    refine lq_laloadR C hc_2023 dL_law_2023 ?_
    refine lq_iload C 0 rfl dL_law_2024 ?_
    refine lq_i2l C dL_law_2026 ?_
    refine lq_lcmp C dL_law_2027 ?_
    obtain ⟨hc_2028, h⟩ := h
    refine lq_if_eqC C 2033 (by decide) dL_law_2028 (fun _ => ?_) (fun c_ => absurd hc_2028 c_)
    refine lq_goto C 3491 (by decide) dL_law_2033 ?_
    exact lq_sub [2, 3, 4, 5, 6] rfl (lz_tail C hR x4 (cd + mc2) (dd + ms3) S_1 v_5 f_5 g_5 h)
set_option maxHeartbeats 1000000 in
set_option maxRecDepth 20000 in
theorem lz_c34 (C : lC p l s m meth c b L xs D Y tp dp) (hL : L < 2 ^ 31) {R : Int32 → Nat → Nat → cS → (Nat → Int32) → (Nat → Nat → Int32) → (Nat → Nat → Int64) → Prop} (hR : ∀ (x4 : Int32) (cd dd : Nat) (S : cS) (v : Nat → Int32) (f : Nat → Nat → Int32) (g : Nat → Nat → Int64), R x4 cd dd S v f g → lG p l e s m below meth c b D Y cd dd 23 [(4, .int x4), (3, .ref out), (2, .ref (a 0)), (1, .ref x), (0, .ref b)] [] S a v f g) (x4 : Int32) (cd dd : Nat) (S : cS) (v : Nat → Int32) (f : Nat → Nat → Int32) (g : Nat → Nat → Int64) (h : lw_c34 R xs L dp x out x4 cd dd S v f g) : lG p l e s m below meth c b D Y cd dd 2036 [(4, .int x4), (3, .ref out), (2, .ref (a 0)), (1, .ref x), (0, .ref b)] [] S a v f g := by
  have hlt := C.2.2.2.2.2.2.2.2.2.2.1
  unfold lw_c34 at h
  refine lq_aload_n C (i := 1) rfl 3 rfl dL_law_2036 ?_
  refine lq_aload_n C (i := 0) rfl 4 rfl dL_law_2037 ?_
  refine lq_iload C 0 rfl dL_law_2038 ?_
  refine lq_iconst C (x := nI 1) rfl dL_law_2040 ?_
  refine lq_iadd C dL_law_2041 ?_
  obtain ⟨hc_2042, h⟩ := h
  refine lq_sldR C hL hc_2042 dL_law_2042 ?_
  refine lq_aload_n C (i := 3) rfl 1 rfl dL_law_2043 ?_
  obtain ⟨mc2, ms3, hm_, h⟩ := h
  refine lq_callW C (tw_L_term l hlt mc2 ms3 x ((xs ((x4 + ((nI 1)))).toNatClampNeg)) out S dp h) lH_307 rfl rfl ⟨by decide, by decide⟩ hm_ rfl (Nat.le_of_ble_eq_true rfl) dL_law_2044 (fun r_1 S_1 h => ?_)
  refine lq_istore C (lv' := [(5, .int r_1), (4, .int x4), (3, .ref out), (2, .ref (a 0)), (1, .ref x), (0, .ref b)]) (by decide) rfl dL_law_2047 ?_
  refine lq_aload_n C (i := 2) rfl 3 rfl dL_law_2049 ?_
  refine lq_aload_n C (i := 0) rfl 5 rfl dL_law_2050 ?_
  refine lq_iload C 1 rfl dL_law_2051 ?_
  refine lq_iconst C (x := nI 1) rfl dL_law_2053 ?_
  refine lq_iadd C dL_law_2054 ?_
  obtain ⟨hc_2055, h⟩ := h
  refine lq_sldR C hL hc_2055 dL_law_2055 ?_
  obtain ⟨hc_2056, h⟩ := h
  refine lq_callMW C (s_term l ((xs ((x4 + ((nI 1)))).toNatClampNeg)) v f g h) lM_309 rfl rfl ⟨by decide, by decide⟩ hc_2056 rfl (Nat.le_of_ble_eq_true rfl) dL_law_2056 (fun r_4 v_4 f_4 g_4 h => ?_)
  refine lq_istore C (lv' := [(6, .int r_4), (5, .int r_1), (4, .int x4), (3, .ref out), (2, .ref (a 0)), (1, .ref x), (0, .ref b)]) (by decide) rfl dL_law_2059 ?_
  refine lq_aload_n C (i := 2) rfl 4 rfl dL_law_2061 ?_
  obtain ⟨hc_2062, h⟩ := h
  refine lq_callMW C (s_thrown l  v_4 f_4 g_4 h) lM_192 rfl rfl ⟨by decide, by decide⟩ hc_2062 rfl (Nat.le_of_ble_eq_true rfl) dL_law_2062 (fun r_5 v_5 f_5 g_5 h => ?_)
  refine lq_iload C 1 rfl dL_law_2065 ?_
  obtain ⟨hc_2067, h⟩ := h
  refine lq_icmp_eq C 2072 (by decide) dL_law_2067 (fun _ => ?_) (fun c_ => absurd hc_2067 c_)
  refine lq_iload C 1 rfl dL_law_2072 ?_
  refine lq_if_ne C 2089 (by decide) dL_law_2074 (fun c_ => ?_) (fun c_ => ?_)
  · have h := h.1 c_
    refine lq_goto C 3491 (by decide) dL_law_2089 ?_
    exact lq_sub [2, 3, 4, 5, 6] rfl (lz_tail C hR x4 (cd + mc2) (dd + ms3) S_1 v_5 f_5 g_5 h)
  · have h := h.2 c_
    refine lq_aload_n C (i := 3) rfl 3 rfl dL_law_2077 ?_
    refine lq_iconst C (x := nI 0) rfl dL_law_2078 ?_
    obtain ⟨hc_2079, h⟩ := h
    refine lq_laloadR C hc_2079 dL_law_2079 ?_
    refine lq_iload C 0 rfl dL_law_2080 ?_
    refine lq_i2l C dL_law_2082 ?_
    refine lq_lcmp C dL_law_2083 ?_
    obtain ⟨hc_2084, h⟩ := h
    refine lq_if_eqC C 2089 (by decide) dL_law_2084 (fun _ => ?_) (fun c_ => absurd hc_2084 c_)
    refine lq_goto C 3491 (by decide) dL_law_2089 ?_
    exact lq_sub [2, 3, 4, 5, 6] rfl (lz_tail C hR x4 (cd + mc2) (dd + ms3) S_1 v_5 f_5 g_5 h)
set_option maxHeartbeats 1000000 in
set_option maxRecDepth 20000 in
theorem lz_c35 (C : lC p l s m meth c b L xs D Y tp dp) (hL : L < 2 ^ 31) {R : Int32 → Nat → Nat → cS → (Nat → Int32) → (Nat → Nat → Int32) → (Nat → Nat → Int64) → Prop} (hR : ∀ (x4 : Int32) (cd dd : Nat) (S : cS) (v : Nat → Int32) (f : Nat → Nat → Int32) (g : Nat → Nat → Int64), R x4 cd dd S v f g → lG p l e s m below meth c b D Y cd dd 23 [(4, .int x4), (3, .ref out), (2, .ref (a 0)), (1, .ref x), (0, .ref b)] [] S a v f g) (x4 : Int32) (cd dd : Nat) (S : cS) (v : Nat → Int32) (f : Nat → Nat → Int32) (g : Nat → Nat → Int64) (h : lw_c35 R xs L dp x out x4 cd dd S v f g) : lG p l e s m below meth c b D Y cd dd 2092 [(4, .int x4), (3, .ref out), (2, .ref (a 0)), (1, .ref x), (0, .ref b)] [] S a v f g := by
  have hlt := C.2.2.2.2.2.2.2.2.2.2.1
  unfold lw_c35 at h
  refine lq_aload_n C (i := 1) rfl 3 rfl dL_law_2092 ?_
  refine lq_aload_n C (i := 0) rfl 4 rfl dL_law_2093 ?_
  refine lq_iload C 0 rfl dL_law_2094 ?_
  refine lq_iconst C (x := nI 1) rfl dL_law_2096 ?_
  refine lq_iadd C dL_law_2097 ?_
  obtain ⟨hc_2098, h⟩ := h
  refine lq_sldR C hL hc_2098 dL_law_2098 ?_
  refine lq_aload_n C (i := 0) rfl 4 rfl dL_law_2099 ?_
  refine lq_iload C 0 rfl dL_law_2100 ?_
  refine lq_iconst C (x := nI 2) rfl dL_law_2102 ?_
  refine lq_iadd C dL_law_2103 ?_
  obtain ⟨hc_2104, h⟩ := h
  refine lq_sldR C hL hc_2104 dL_law_2104 ?_
  refine lq_aload_n C (i := 3) rfl 1 rfl dL_law_2105 ?_
  obtain ⟨mc2, ms3, hm_, h⟩ := h
  refine lq_callW C (tw_L_phrase l hlt mc2 ms3 x ((xs ((x4 + ((nI 1)))).toNatClampNeg)) ((xs ((x4 + ((nI 2)))).toNatClampNeg)) out S dp h) lH_310 rfl rfl ⟨by decide, by decide⟩ hm_ rfl (Nat.le_of_ble_eq_true rfl) dL_law_2106 (fun r_1 S_1 h => ?_)
  refine lq_istore C (lv' := [(5, .int r_1), (4, .int x4), (3, .ref out), (2, .ref (a 0)), (1, .ref x), (0, .ref b)]) (by decide) rfl dL_law_2109 ?_
  refine lq_aload_n C (i := 2) rfl 3 rfl dL_law_2111 ?_
  refine lq_aload_n C (i := 0) rfl 5 rfl dL_law_2112 ?_
  refine lq_iload C 1 rfl dL_law_2113 ?_
  refine lq_iconst C (x := nI 1) rfl dL_law_2115 ?_
  refine lq_iadd C dL_law_2116 ?_
  obtain ⟨hc_2117, h⟩ := h
  refine lq_sldR C hL hc_2117 dL_law_2117 ?_
  refine lq_aload_n C (i := 0) rfl 5 rfl dL_law_2118 ?_
  refine lq_iload C 1 rfl dL_law_2119 ?_
  refine lq_iconst C (x := nI 2) rfl dL_law_2121 ?_
  refine lq_iadd C dL_law_2122 ?_
  obtain ⟨hc_2123, h⟩ := h
  refine lq_sldR C hL hc_2123 dL_law_2123 ?_
  obtain ⟨hc_2124, h⟩ := h
  refine lq_callMW C (s_phrase l ((xs ((x4 + ((nI 1)))).toNatClampNeg)) ((xs ((x4 + ((nI 2)))).toNatClampNeg)) v f g h) lM_312 rfl rfl ⟨by decide, by decide⟩ hc_2124 rfl (Nat.le_of_ble_eq_true rfl) dL_law_2124 (fun r_4 v_4 f_4 g_4 h => ?_)
  refine lq_istore C (lv' := [(6, .int r_4), (5, .int r_1), (4, .int x4), (3, .ref out), (2, .ref (a 0)), (1, .ref x), (0, .ref b)]) (by decide) rfl dL_law_2127 ?_
  refine lq_aload_n C (i := 2) rfl 4 rfl dL_law_2129 ?_
  obtain ⟨hc_2130, h⟩ := h
  refine lq_callMW C (s_thrown l  v_4 f_4 g_4 h) lM_192 rfl rfl ⟨by decide, by decide⟩ hc_2130 rfl (Nat.le_of_ble_eq_true rfl) dL_law_2130 (fun r_5 v_5 f_5 g_5 h => ?_)
  refine lq_iload C 1 rfl dL_law_2133 ?_
  obtain ⟨hc_2135, h⟩ := h
  refine lq_icmp_eq C 2140 (by decide) dL_law_2135 (fun _ => ?_) (fun c_ => absurd hc_2135 c_)
  refine lq_iload C 1 rfl dL_law_2140 ?_
  refine lq_if_ne C 2157 (by decide) dL_law_2142 (fun c_ => ?_) (fun c_ => ?_)
  · have h := h.1 c_
    refine lq_goto C 3491 (by decide) dL_law_2157 ?_
    exact lq_sub [2, 3, 4, 5, 6] rfl (lz_tail C hR x4 (cd + mc2) (dd + ms3) S_1 v_5 f_5 g_5 h)
  · have h := h.2 c_
    refine lq_aload_n C (i := 3) rfl 3 rfl dL_law_2145 ?_
    refine lq_iconst C (x := nI 0) rfl dL_law_2146 ?_
    obtain ⟨hc_2147, h⟩ := h
    refine lq_laloadR C hc_2147 dL_law_2147 ?_
    refine lq_iload C 0 rfl dL_law_2148 ?_
    refine lq_i2l C dL_law_2150 ?_
    refine lq_lcmp C dL_law_2151 ?_
    obtain ⟨hc_2152, h⟩ := h
    refine lq_if_eqC C 2157 (by decide) dL_law_2152 (fun _ => ?_) (fun c_ => absurd hc_2152 c_)
    refine lq_goto C 3491 (by decide) dL_law_2157 ?_
    exact lq_sub [2, 3, 4, 5, 6] rfl (lz_tail C hR x4 (cd + mc2) (dd + ms3) S_1 v_5 f_5 g_5 h)
set_option maxHeartbeats 1000000 in
set_option maxRecDepth 20000 in
theorem lz_c36 (C : lC p l s m meth c b L xs D Y tp dp) (hL : L < 2 ^ 31) {R : Int32 → Nat → Nat → cS → (Nat → Int32) → (Nat → Nat → Int32) → (Nat → Nat → Int64) → Prop} (hR : ∀ (x4 : Int32) (cd dd : Nat) (S : cS) (v : Nat → Int32) (f : Nat → Nat → Int32) (g : Nat → Nat → Int64), R x4 cd dd S v f g → lG p l e s m below meth c b D Y cd dd 23 [(4, .int x4), (3, .ref out), (2, .ref (a 0)), (1, .ref x), (0, .ref b)] [] S a v f g) (x4 : Int32) (cd dd : Nat) (S : cS) (v : Nat → Int32) (f : Nat → Nat → Int32) (g : Nat → Nat → Int64) (h : lw_c36 R xs L dp x out x4 cd dd S v f g) : lG p l e s m below meth c b D Y cd dd 2160 [(4, .int x4), (3, .ref out), (2, .ref (a 0)), (1, .ref x), (0, .ref b)] [] S a v f g := by
  have hlt := C.2.2.2.2.2.2.2.2.2.2.1
  unfold lw_c36 at h
  refine lq_aload_n C (i := 1) rfl 3 rfl dL_law_2160 ?_
  refine lq_aload_n C (i := 0) rfl 4 rfl dL_law_2161 ?_
  refine lq_iload C 0 rfl dL_law_2162 ?_
  refine lq_iconst C (x := nI 1) rfl dL_law_2164 ?_
  refine lq_iadd C dL_law_2165 ?_
  obtain ⟨hc_2166, h⟩ := h
  refine lq_sldR C hL hc_2166 dL_law_2166 ?_
  refine lq_aload_n C (i := 0) rfl 4 rfl dL_law_2167 ?_
  refine lq_iload C 0 rfl dL_law_2168 ?_
  refine lq_iconst C (x := nI 2) rfl dL_law_2170 ?_
  refine lq_iadd C dL_law_2171 ?_
  obtain ⟨hc_2172, h⟩ := h
  refine lq_sldR C hL hc_2172 dL_law_2172 ?_
  refine lq_aload_n C (i := 0) rfl 4 rfl dL_law_2173 ?_
  refine lq_iload C 0 rfl dL_law_2174 ?_
  refine lq_iconst C (x := nI 3) rfl dL_law_2176 ?_
  refine lq_iadd C dL_law_2177 ?_
  obtain ⟨hc_2178, h⟩ := h
  refine lq_sldR C hL hc_2178 dL_law_2178 ?_
  refine lq_if_eq C 2186 (by decide) dL_law_2179 (fun c_ => ?_) (fun c_ => ?_)
  · have h := h.1 c_
    refine lq_iconst C (x := nI 0) rfl dL_law_2186 ?_
    refine lq_aload_n C (i := 3) rfl 1 rfl dL_law_2187 ?_
    obtain ⟨mc2, ms3, hm_, h⟩ := h
    refine lq_callW C (tw_L_near l hlt mc2 ms3 x ((xs ((x4 + ((nI 1)))).toNatClampNeg)) ((xs ((x4 + ((nI 2)))).toNatClampNeg)) ((nI 0)) out S dp h) lH_313 rfl rfl ⟨by decide, by decide⟩ hm_ rfl (Nat.le_of_ble_eq_true rfl) dL_law_2188 (fun r_1 S_1 h => ?_)
    refine lq_istore C (lv' := [(5, .int r_1), (4, .int x4), (3, .ref out), (2, .ref (a 0)), (1, .ref x), (0, .ref b)]) (by decide) rfl dL_law_2191 ?_
    refine lq_aload_n C (i := 2) rfl 3 rfl dL_law_2193 ?_
    refine lq_aload_n C (i := 0) rfl 5 rfl dL_law_2194 ?_
    refine lq_iload C 1 rfl dL_law_2195 ?_
    refine lq_iconst C (x := nI 1) rfl dL_law_2197 ?_
    refine lq_iadd C dL_law_2198 ?_
    obtain ⟨hc_2199, h⟩ := h
    refine lq_sldR C hL hc_2199 dL_law_2199 ?_
    refine lq_aload_n C (i := 0) rfl 5 rfl dL_law_2200 ?_
    refine lq_iload C 1 rfl dL_law_2201 ?_
    refine lq_iconst C (x := nI 2) rfl dL_law_2203 ?_
    refine lq_iadd C dL_law_2204 ?_
    obtain ⟨hc_2205, h⟩ := h
    refine lq_sldR C hL hc_2205 dL_law_2205 ?_
    refine lq_aload_n C (i := 0) rfl 5 rfl dL_law_2206 ?_
    refine lq_iload C 1 rfl dL_law_2207 ?_
    refine lq_iconst C (x := nI 3) rfl dL_law_2209 ?_
    refine lq_iadd C dL_law_2210 ?_
    obtain ⟨hc_2211, h⟩ := h
    refine lq_sldR C hL hc_2211 dL_law_2211 ?_
    refine lq_if_eq C 2219 (by decide) dL_law_2212 (fun c_ => ?_) (fun c_ => ?_)
    · have h := h.1 c_
      refine lq_iconst C (x := nI 0) rfl dL_law_2219 ?_
      obtain ⟨hc_2220, h⟩ := h
      refine lq_callMW C (s_near l ((xs ((x4 + ((nI 1)))).toNatClampNeg)) ((xs ((x4 + ((nI 2)))).toNatClampNeg)) ((nI 0)) v f g h) lM_316 rfl rfl ⟨by decide, by decide⟩ hc_2220 rfl (Nat.le_of_ble_eq_true rfl) dL_law_2220 (fun r_4 v_4 f_4 g_4 h => ?_)
      refine lq_istore C (lv' := [(6, .int r_4), (5, .int r_1), (4, .int x4), (3, .ref out), (2, .ref (a 0)), (1, .ref x), (0, .ref b)]) (by decide) rfl dL_law_2223 ?_
      refine lq_aload_n C (i := 2) rfl 4 rfl dL_law_2225 ?_
      obtain ⟨hc_2226, h⟩ := h
      refine lq_callMW C (s_thrown l  v_4 f_4 g_4 h) lM_192 rfl rfl ⟨by decide, by decide⟩ hc_2226 rfl (Nat.le_of_ble_eq_true rfl) dL_law_2226 (fun r_5 v_5 f_5 g_5 h => ?_)
      refine lq_iload C 1 rfl dL_law_2229 ?_
      obtain ⟨hc_2231, h⟩ := h
      refine lq_icmp_eq C 2236 (by decide) dL_law_2231 (fun _ => ?_) (fun c_ => absurd hc_2231 c_)
      refine lq_iload C 1 rfl dL_law_2236 ?_
      refine lq_if_ne C 2253 (by decide) dL_law_2238 (fun c_ => ?_) (fun c_ => ?_)
      · have h := h.1 c_
        refine lq_goto C 3491 (by decide) dL_law_2253 ?_
        exact lq_sub [2, 3, 4, 5, 6] rfl (lz_tail C hR x4 (cd + mc2) (dd + ms3) S_1 v_5 f_5 g_5 h)
      · have h := h.2 c_
        refine lq_aload_n C (i := 3) rfl 3 rfl dL_law_2241 ?_
        refine lq_iconst C (x := nI 0) rfl dL_law_2242 ?_
        obtain ⟨hc_2243, h⟩ := h
        refine lq_laloadR C hc_2243 dL_law_2243 ?_
        refine lq_iload C 0 rfl dL_law_2244 ?_
        refine lq_i2l C dL_law_2246 ?_
        refine lq_lcmp C dL_law_2247 ?_
        obtain ⟨hc_2248, h⟩ := h
        refine lq_if_eqC C 2253 (by decide) dL_law_2248 (fun _ => ?_) (fun c_ => absurd hc_2248 c_)
        refine lq_goto C 3491 (by decide) dL_law_2253 ?_
        exact lq_sub [2, 3, 4, 5, 6] rfl (lz_tail C hR x4 (cd + mc2) (dd + ms3) S_1 v_5 f_5 g_5 h)
    · have h := h.2 c_
      refine lq_iconst C (x := nI 1) rfl dL_law_2215 ?_
      refine lq_goto C 2220 (by decide) dL_law_2216 ?_
      obtain ⟨hc_2220, h⟩ := h
      refine lq_callMW C (s_near l ((xs ((x4 + ((nI 1)))).toNatClampNeg)) ((xs ((x4 + ((nI 2)))).toNatClampNeg)) ((nI 1)) v f g h) lM_316 rfl rfl ⟨by decide, by decide⟩ hc_2220 rfl (Nat.le_of_ble_eq_true rfl) dL_law_2220 (fun r_6 v_6 f_6 g_6 h => ?_)
      refine lq_istore C (lv' := [(6, .int r_6), (5, .int r_1), (4, .int x4), (3, .ref out), (2, .ref (a 0)), (1, .ref x), (0, .ref b)]) (by decide) rfl dL_law_2223 ?_
      refine lq_aload_n C (i := 2) rfl 4 rfl dL_law_2225 ?_
      obtain ⟨hc_2226, h⟩ := h
      refine lq_callMW C (s_thrown l  v_6 f_6 g_6 h) lM_192 rfl rfl ⟨by decide, by decide⟩ hc_2226 rfl (Nat.le_of_ble_eq_true rfl) dL_law_2226 (fun r_7 v_7 f_7 g_7 h => ?_)
      refine lq_iload C 1 rfl dL_law_2229 ?_
      obtain ⟨hc_2231, h⟩ := h
      refine lq_icmp_eq C 2236 (by decide) dL_law_2231 (fun _ => ?_) (fun c_ => absurd hc_2231 c_)
      refine lq_iload C 1 rfl dL_law_2236 ?_
      refine lq_if_ne C 2253 (by decide) dL_law_2238 (fun c_ => ?_) (fun c_ => ?_)
      · have h := h.1 c_
        refine lq_goto C 3491 (by decide) dL_law_2253 ?_
        exact lq_sub [2, 3, 4, 5, 6] rfl (lz_tail C hR x4 (cd + mc2) (dd + ms3) S_1 v_7 f_7 g_7 h)
      · have h := h.2 c_
        refine lq_aload_n C (i := 3) rfl 3 rfl dL_law_2241 ?_
        refine lq_iconst C (x := nI 0) rfl dL_law_2242 ?_
        obtain ⟨hc_2243, h⟩ := h
        refine lq_laloadR C hc_2243 dL_law_2243 ?_
        refine lq_iload C 0 rfl dL_law_2244 ?_
        refine lq_i2l C dL_law_2246 ?_
        refine lq_lcmp C dL_law_2247 ?_
        obtain ⟨hc_2248, h⟩ := h
        refine lq_if_eqC C 2253 (by decide) dL_law_2248 (fun _ => ?_) (fun c_ => absurd hc_2248 c_)
        refine lq_goto C 3491 (by decide) dL_law_2253 ?_
        exact lq_sub [2, 3, 4, 5, 6] rfl (lz_tail C hR x4 (cd + mc2) (dd + ms3) S_1 v_7 f_7 g_7 h)
  · have h := h.2 c_
    refine lq_iconst C (x := nI 1) rfl dL_law_2182 ?_
    refine lq_goto C 2187 (by decide) dL_law_2183 ?_
    refine lq_aload_n C (i := 3) rfl 1 rfl dL_law_2187 ?_
    obtain ⟨mc9, ms10, hm_, h⟩ := h
    refine lq_callW C (tw_L_near l hlt mc9 ms10 x ((xs ((x4 + ((nI 1)))).toNatClampNeg)) ((xs ((x4 + ((nI 2)))).toNatClampNeg)) ((nI 1)) out S dp h) lH_313 rfl rfl ⟨by decide, by decide⟩ hm_ rfl (Nat.le_of_ble_eq_true rfl) dL_law_2188 (fun r_8 S_8 h => ?_)
    refine lq_istore C (lv' := [(5, .int r_8), (4, .int x4), (3, .ref out), (2, .ref (a 0)), (1, .ref x), (0, .ref b)]) (by decide) rfl dL_law_2191 ?_
    refine lq_aload_n C (i := 2) rfl 3 rfl dL_law_2193 ?_
    refine lq_aload_n C (i := 0) rfl 5 rfl dL_law_2194 ?_
    refine lq_iload C 1 rfl dL_law_2195 ?_
    refine lq_iconst C (x := nI 1) rfl dL_law_2197 ?_
    refine lq_iadd C dL_law_2198 ?_
    obtain ⟨hc_2199, h⟩ := h
    refine lq_sldR C hL hc_2199 dL_law_2199 ?_
    refine lq_aload_n C (i := 0) rfl 5 rfl dL_law_2200 ?_
    refine lq_iload C 1 rfl dL_law_2201 ?_
    refine lq_iconst C (x := nI 2) rfl dL_law_2203 ?_
    refine lq_iadd C dL_law_2204 ?_
    obtain ⟨hc_2205, h⟩ := h
    refine lq_sldR C hL hc_2205 dL_law_2205 ?_
    refine lq_aload_n C (i := 0) rfl 5 rfl dL_law_2206 ?_
    refine lq_iload C 1 rfl dL_law_2207 ?_
    refine lq_iconst C (x := nI 3) rfl dL_law_2209 ?_
    refine lq_iadd C dL_law_2210 ?_
    obtain ⟨hc_2211, h⟩ := h
    refine lq_sldR C hL hc_2211 dL_law_2211 ?_
    refine lq_if_eq C 2219 (by decide) dL_law_2212 (fun c_ => ?_) (fun c_ => ?_)
    · have h := h.1 c_
      refine lq_iconst C (x := nI 0) rfl dL_law_2219 ?_
      obtain ⟨hc_2220, h⟩ := h
      refine lq_callMW C (s_near l ((xs ((x4 + ((nI 1)))).toNatClampNeg)) ((xs ((x4 + ((nI 2)))).toNatClampNeg)) ((nI 0)) v f g h) lM_316 rfl rfl ⟨by decide, by decide⟩ hc_2220 rfl (Nat.le_of_ble_eq_true rfl) dL_law_2220 (fun r_11 v_11 f_11 g_11 h => ?_)
      refine lq_istore C (lv' := [(6, .int r_11), (5, .int r_8), (4, .int x4), (3, .ref out), (2, .ref (a 0)), (1, .ref x), (0, .ref b)]) (by decide) rfl dL_law_2223 ?_
      refine lq_aload_n C (i := 2) rfl 4 rfl dL_law_2225 ?_
      obtain ⟨hc_2226, h⟩ := h
      refine lq_callMW C (s_thrown l  v_11 f_11 g_11 h) lM_192 rfl rfl ⟨by decide, by decide⟩ hc_2226 rfl (Nat.le_of_ble_eq_true rfl) dL_law_2226 (fun r_12 v_12 f_12 g_12 h => ?_)
      refine lq_iload C 1 rfl dL_law_2229 ?_
      obtain ⟨hc_2231, h⟩ := h
      refine lq_icmp_eq C 2236 (by decide) dL_law_2231 (fun _ => ?_) (fun c_ => absurd hc_2231 c_)
      refine lq_iload C 1 rfl dL_law_2236 ?_
      refine lq_if_ne C 2253 (by decide) dL_law_2238 (fun c_ => ?_) (fun c_ => ?_)
      · have h := h.1 c_
        refine lq_goto C 3491 (by decide) dL_law_2253 ?_
        exact lq_sub [2, 3, 4, 5, 6] rfl (lz_tail C hR x4 (cd + mc9) (dd + ms10) S_8 v_12 f_12 g_12 h)
      · have h := h.2 c_
        refine lq_aload_n C (i := 3) rfl 3 rfl dL_law_2241 ?_
        refine lq_iconst C (x := nI 0) rfl dL_law_2242 ?_
        obtain ⟨hc_2243, h⟩ := h
        refine lq_laloadR C hc_2243 dL_law_2243 ?_
        refine lq_iload C 0 rfl dL_law_2244 ?_
        refine lq_i2l C dL_law_2246 ?_
        refine lq_lcmp C dL_law_2247 ?_
        obtain ⟨hc_2248, h⟩ := h
        refine lq_if_eqC C 2253 (by decide) dL_law_2248 (fun _ => ?_) (fun c_ => absurd hc_2248 c_)
        refine lq_goto C 3491 (by decide) dL_law_2253 ?_
        exact lq_sub [2, 3, 4, 5, 6] rfl (lz_tail C hR x4 (cd + mc9) (dd + ms10) S_8 v_12 f_12 g_12 h)
    · have h := h.2 c_
      refine lq_iconst C (x := nI 1) rfl dL_law_2215 ?_
      refine lq_goto C 2220 (by decide) dL_law_2216 ?_
      obtain ⟨hc_2220, h⟩ := h
      refine lq_callMW C (s_near l ((xs ((x4 + ((nI 1)))).toNatClampNeg)) ((xs ((x4 + ((nI 2)))).toNatClampNeg)) ((nI 1)) v f g h) lM_316 rfl rfl ⟨by decide, by decide⟩ hc_2220 rfl (Nat.le_of_ble_eq_true rfl) dL_law_2220 (fun r_13 v_13 f_13 g_13 h => ?_)
      refine lq_istore C (lv' := [(6, .int r_13), (5, .int r_8), (4, .int x4), (3, .ref out), (2, .ref (a 0)), (1, .ref x), (0, .ref b)]) (by decide) rfl dL_law_2223 ?_
      refine lq_aload_n C (i := 2) rfl 4 rfl dL_law_2225 ?_
      obtain ⟨hc_2226, h⟩ := h
      refine lq_callMW C (s_thrown l  v_13 f_13 g_13 h) lM_192 rfl rfl ⟨by decide, by decide⟩ hc_2226 rfl (Nat.le_of_ble_eq_true rfl) dL_law_2226 (fun r_14 v_14 f_14 g_14 h => ?_)
      refine lq_iload C 1 rfl dL_law_2229 ?_
      obtain ⟨hc_2231, h⟩ := h
      refine lq_icmp_eq C 2236 (by decide) dL_law_2231 (fun _ => ?_) (fun c_ => absurd hc_2231 c_)
      refine lq_iload C 1 rfl dL_law_2236 ?_
      refine lq_if_ne C 2253 (by decide) dL_law_2238 (fun c_ => ?_) (fun c_ => ?_)
      · have h := h.1 c_
        refine lq_goto C 3491 (by decide) dL_law_2253 ?_
        exact lq_sub [2, 3, 4, 5, 6] rfl (lz_tail C hR x4 (cd + mc9) (dd + ms10) S_8 v_14 f_14 g_14 h)
      · have h := h.2 c_
        refine lq_aload_n C (i := 3) rfl 3 rfl dL_law_2241 ?_
        refine lq_iconst C (x := nI 0) rfl dL_law_2242 ?_
        obtain ⟨hc_2243, h⟩ := h
        refine lq_laloadR C hc_2243 dL_law_2243 ?_
        refine lq_iload C 0 rfl dL_law_2244 ?_
        refine lq_i2l C dL_law_2246 ?_
        refine lq_lcmp C dL_law_2247 ?_
        obtain ⟨hc_2248, h⟩ := h
        refine lq_if_eqC C 2253 (by decide) dL_law_2248 (fun _ => ?_) (fun c_ => absurd hc_2248 c_)
        refine lq_goto C 3491 (by decide) dL_law_2253 ?_
        exact lq_sub [2, 3, 4, 5, 6] rfl (lz_tail C hR x4 (cd + mc9) (dd + ms10) S_8 v_14 f_14 g_14 h)
set_option maxHeartbeats 1000000 in
set_option maxRecDepth 20000 in
theorem lz_c37 (C : lC p l s m meth c b L xs D Y tp dp) (hL : L < 2 ^ 31) {R : Int32 → Nat → Nat → cS → (Nat → Int32) → (Nat → Nat → Int32) → (Nat → Nat → Int64) → Prop} (hR : ∀ (x4 : Int32) (cd dd : Nat) (S : cS) (v : Nat → Int32) (f : Nat → Nat → Int32) (g : Nat → Nat → Int64), R x4 cd dd S v f g → lG p l e s m below meth c b D Y cd dd 23 [(4, .int x4), (3, .ref out), (2, .ref (a 0)), (1, .ref x), (0, .ref b)] [] S a v f g) (x4 : Int32) (cd dd : Nat) (S : cS) (v : Nat → Int32) (f : Nat → Nat → Int32) (g : Nat → Nat → Int64) (h : lw_c37 R xs L dp x out x4 cd dd S v f g) : lG p l e s m below meth c b D Y cd dd 2256 [(4, .int x4), (3, .ref out), (2, .ref (a 0)), (1, .ref x), (0, .ref b)] [] S a v f g := by
  have hlt := C.2.2.2.2.2.2.2.2.2.2.1
  unfold lw_c37 at h
  refine lq_aload_n C (i := 1) rfl 3 rfl dL_law_2256 ?_
  refine lq_aload_n C (i := 0) rfl 4 rfl dL_law_2257 ?_
  refine lq_iload C 0 rfl dL_law_2258 ?_
  refine lq_iconst C (x := nI 1) rfl dL_law_2260 ?_
  refine lq_iadd C dL_law_2261 ?_
  obtain ⟨hc_2262, h⟩ := h
  refine lq_sldR C hL hc_2262 dL_law_2262 ?_
  refine lq_aload_n C (i := 3) rfl 1 rfl dL_law_2263 ?_
  obtain ⟨mc2, ms3, hm_, h⟩ := h
  refine lq_callW C (tw_L_prefix l hlt mc2 ms3 x ((xs ((x4 + ((nI 1)))).toNatClampNeg)) out S dp h) lH_317 rfl rfl ⟨by decide, by decide⟩ hm_ rfl (Nat.le_of_ble_eq_true rfl) dL_law_2264 (fun r_1 S_1 h => ?_)
  refine lq_istore C (lv' := [(5, .int r_1), (4, .int x4), (3, .ref out), (2, .ref (a 0)), (1, .ref x), (0, .ref b)]) (by decide) rfl dL_law_2267 ?_
  refine lq_aload_n C (i := 2) rfl 3 rfl dL_law_2269 ?_
  refine lq_aload_n C (i := 0) rfl 5 rfl dL_law_2270 ?_
  refine lq_iload C 1 rfl dL_law_2271 ?_
  refine lq_iconst C (x := nI 1) rfl dL_law_2273 ?_
  refine lq_iadd C dL_law_2274 ?_
  obtain ⟨hc_2275, h⟩ := h
  refine lq_sldR C hL hc_2275 dL_law_2275 ?_
  obtain ⟨hc_2276, h⟩ := h
  refine lq_callMW C (s_prefix l ((xs ((x4 + ((nI 1)))).toNatClampNeg)) v f g h) lM_319 rfl rfl ⟨by decide, by decide⟩ hc_2276 rfl (Nat.le_of_ble_eq_true rfl) dL_law_2276 (fun r_4 v_4 f_4 g_4 h => ?_)
  refine lq_istore C (lv' := [(6, .int r_4), (5, .int r_1), (4, .int x4), (3, .ref out), (2, .ref (a 0)), (1, .ref x), (0, .ref b)]) (by decide) rfl dL_law_2279 ?_
  refine lq_aload_n C (i := 2) rfl 4 rfl dL_law_2281 ?_
  obtain ⟨hc_2282, h⟩ := h
  refine lq_callMW C (s_thrown l  v_4 f_4 g_4 h) lM_192 rfl rfl ⟨by decide, by decide⟩ hc_2282 rfl (Nat.le_of_ble_eq_true rfl) dL_law_2282 (fun r_5 v_5 f_5 g_5 h => ?_)
  refine lq_iload C 1 rfl dL_law_2285 ?_
  obtain ⟨hc_2287, h⟩ := h
  refine lq_icmp_eq C 2292 (by decide) dL_law_2287 (fun _ => ?_) (fun c_ => absurd hc_2287 c_)
  refine lq_iload C 1 rfl dL_law_2292 ?_
  refine lq_if_ne C 2309 (by decide) dL_law_2294 (fun c_ => ?_) (fun c_ => ?_)
  · have h := h.1 c_
    refine lq_goto C 3491 (by decide) dL_law_2309 ?_
    exact lq_sub [2, 3, 4, 5, 6] rfl (lz_tail C hR x4 (cd + mc2) (dd + ms3) S_1 v_5 f_5 g_5 h)
  · have h := h.2 c_
    refine lq_aload_n C (i := 3) rfl 3 rfl dL_law_2297 ?_
    refine lq_iconst C (x := nI 0) rfl dL_law_2298 ?_
    obtain ⟨hc_2299, h⟩ := h
    refine lq_laloadR C hc_2299 dL_law_2299 ?_
    refine lq_iload C 0 rfl dL_law_2300 ?_
    refine lq_i2l C dL_law_2302 ?_
    refine lq_lcmp C dL_law_2303 ?_
    obtain ⟨hc_2304, h⟩ := h
    refine lq_if_eqC C 2309 (by decide) dL_law_2304 (fun _ => ?_) (fun c_ => absurd hc_2304 c_)
    refine lq_goto C 3491 (by decide) dL_law_2309 ?_
    exact lq_sub [2, 3, 4, 5, 6] rfl (lz_tail C hR x4 (cd + mc2) (dd + ms3) S_1 v_5 f_5 g_5 h)
set_option maxHeartbeats 1000000 in
set_option maxRecDepth 20000 in
theorem lz_c38 (C : lC p l s m meth c b L xs D Y tp dp) (hL : L < 2 ^ 31) {R : Int32 → Nat → Nat → cS → (Nat → Int32) → (Nat → Nat → Int32) → (Nat → Nat → Int64) → Prop} (hR : ∀ (x4 : Int32) (cd dd : Nat) (S : cS) (v : Nat → Int32) (f : Nat → Nat → Int32) (g : Nat → Nat → Int64), R x4 cd dd S v f g → lG p l e s m below meth c b D Y cd dd 23 [(4, .int x4), (3, .ref out), (2, .ref (a 0)), (1, .ref x), (0, .ref b)] [] S a v f g) (x4 : Int32) (cd dd : Nat) (S : cS) (v : Nat → Int32) (f : Nat → Nat → Int32) (g : Nat → Nat → Int64) (h : lw_c38 R xs L dp x out x4 cd dd S v f g) : lG p l e s m below meth c b D Y cd dd 2312 [(4, .int x4), (3, .ref out), (2, .ref (a 0)), (1, .ref x), (0, .ref b)] [] S a v f g := by
  have hlt := C.2.2.2.2.2.2.2.2.2.2.1
  unfold lw_c38 at h
  refine lq_aload_n C (i := 1) rfl 3 rfl dL_law_2312 ?_
  refine lq_aload_n C (i := 0) rfl 4 rfl dL_law_2313 ?_
  refine lq_iload C 0 rfl dL_law_2314 ?_
  refine lq_iconst C (x := nI 1) rfl dL_law_2316 ?_
  refine lq_iadd C dL_law_2317 ?_
  obtain ⟨hc_2318, h⟩ := h
  refine lq_sldR C hL hc_2318 dL_law_2318 ?_
  refine lq_aload_n C (i := 3) rfl 1 rfl dL_law_2319 ?_
  obtain ⟨mc2, ms3, hm_, h⟩ := h
  refine lq_callW C (tw_L_wild l hlt mc2 ms3 x ((xs ((x4 + ((nI 1)))).toNatClampNeg)) out S dp h) lH_320 rfl rfl ⟨by decide, by decide⟩ hm_ rfl (Nat.le_of_ble_eq_true rfl) dL_law_2320 (fun r_1 S_1 h => ?_)
  refine lq_istore C (lv' := [(5, .int r_1), (4, .int x4), (3, .ref out), (2, .ref (a 0)), (1, .ref x), (0, .ref b)]) (by decide) rfl dL_law_2323 ?_
  refine lq_aload_n C (i := 2) rfl 3 rfl dL_law_2325 ?_
  refine lq_aload_n C (i := 0) rfl 5 rfl dL_law_2326 ?_
  refine lq_iload C 1 rfl dL_law_2327 ?_
  refine lq_iconst C (x := nI 1) rfl dL_law_2329 ?_
  refine lq_iadd C dL_law_2330 ?_
  obtain ⟨hc_2331, h⟩ := h
  refine lq_sldR C hL hc_2331 dL_law_2331 ?_
  obtain ⟨hc_2332, h⟩ := h
  refine lq_callMW C (s_wild l ((xs ((x4 + ((nI 1)))).toNatClampNeg)) v f g h) lM_322 rfl rfl ⟨by decide, by decide⟩ hc_2332 rfl (Nat.le_of_ble_eq_true rfl) dL_law_2332 (fun r_4 v_4 f_4 g_4 h => ?_)
  refine lq_istore C (lv' := [(6, .int r_4), (5, .int r_1), (4, .int x4), (3, .ref out), (2, .ref (a 0)), (1, .ref x), (0, .ref b)]) (by decide) rfl dL_law_2335 ?_
  refine lq_aload_n C (i := 2) rfl 4 rfl dL_law_2337 ?_
  obtain ⟨hc_2338, h⟩ := h
  refine lq_callMW C (s_thrown l  v_4 f_4 g_4 h) lM_192 rfl rfl ⟨by decide, by decide⟩ hc_2338 rfl (Nat.le_of_ble_eq_true rfl) dL_law_2338 (fun r_5 v_5 f_5 g_5 h => ?_)
  refine lq_iload C 1 rfl dL_law_2341 ?_
  obtain ⟨hc_2343, h⟩ := h
  refine lq_icmp_eq C 2348 (by decide) dL_law_2343 (fun _ => ?_) (fun c_ => absurd hc_2343 c_)
  refine lq_iload C 1 rfl dL_law_2348 ?_
  refine lq_if_ne C 2365 (by decide) dL_law_2350 (fun c_ => ?_) (fun c_ => ?_)
  · have h := h.1 c_
    refine lq_goto C 3491 (by decide) dL_law_2365 ?_
    exact lq_sub [2, 3, 4, 5, 6] rfl (lz_tail C hR x4 (cd + mc2) (dd + ms3) S_1 v_5 f_5 g_5 h)
  · have h := h.2 c_
    refine lq_aload_n C (i := 3) rfl 3 rfl dL_law_2353 ?_
    refine lq_iconst C (x := nI 0) rfl dL_law_2354 ?_
    obtain ⟨hc_2355, h⟩ := h
    refine lq_laloadR C hc_2355 dL_law_2355 ?_
    refine lq_iload C 0 rfl dL_law_2356 ?_
    refine lq_i2l C dL_law_2358 ?_
    refine lq_lcmp C dL_law_2359 ?_
    obtain ⟨hc_2360, h⟩ := h
    refine lq_if_eqC C 2365 (by decide) dL_law_2360 (fun _ => ?_) (fun c_ => absurd hc_2360 c_)
    refine lq_goto C 3491 (by decide) dL_law_2365 ?_
    exact lq_sub [2, 3, 4, 5, 6] rfl (lz_tail C hR x4 (cd + mc2) (dd + ms3) S_1 v_5 f_5 g_5 h)
set_option maxHeartbeats 1000000 in
set_option maxRecDepth 20000 in
theorem lz_c39 (C : lC p l s m meth c b L xs D Y tp dp) (hL : L < 2 ^ 31) {R : Int32 → Nat → Nat → cS → (Nat → Int32) → (Nat → Nat → Int32) → (Nat → Nat → Int64) → Prop} (hR : ∀ (x4 : Int32) (cd dd : Nat) (S : cS) (v : Nat → Int32) (f : Nat → Nat → Int32) (g : Nat → Nat → Int64), R x4 cd dd S v f g → lG p l e s m below meth c b D Y cd dd 23 [(4, .int x4), (3, .ref out), (2, .ref (a 0)), (1, .ref x), (0, .ref b)] [] S a v f g) (x4 : Int32) (cd dd : Nat) (S : cS) (v : Nat → Int32) (f : Nat → Nat → Int32) (g : Nat → Nat → Int64) (h : lw_c39 R xs L dp x out x4 cd dd S v f g) : lG p l e s m below meth c b D Y cd dd 2368 [(4, .int x4), (3, .ref out), (2, .ref (a 0)), (1, .ref x), (0, .ref b)] [] S a v f g := by
  have hlt := C.2.2.2.2.2.2.2.2.2.2.1
  unfold lw_c39 at h
  refine lq_aload_n C (i := 1) rfl 3 rfl dL_law_2368 ?_
  refine lq_aload_n C (i := 0) rfl 4 rfl dL_law_2369 ?_
  refine lq_iload C 0 rfl dL_law_2370 ?_
  refine lq_iconst C (x := nI 1) rfl dL_law_2372 ?_
  refine lq_iadd C dL_law_2373 ?_
  obtain ⟨hc_2374, h⟩ := h
  refine lq_sldR C hL hc_2374 dL_law_2374 ?_
  refine lq_aload_n C (i := 0) rfl 4 rfl dL_law_2375 ?_
  refine lq_iload C 0 rfl dL_law_2376 ?_
  refine lq_iconst C (x := nI 2) rfl dL_law_2378 ?_
  refine lq_iadd C dL_law_2379 ?_
  obtain ⟨hc_2380, h⟩ := h
  refine lq_sldR C hL hc_2380 dL_law_2380 ?_
  refine lq_aload_n C (i := 3) rfl 1 rfl dL_law_2381 ?_
  obtain ⟨mc2, ms3, hm_, h⟩ := h
  refine lq_callW C (tw_L_fuzzy l hlt mc2 ms3 x ((xs ((x4 + ((nI 1)))).toNatClampNeg)) ((xs ((x4 + ((nI 2)))).toNatClampNeg)) out S dp h) lH_323 rfl rfl ⟨by decide, by decide⟩ hm_ rfl (Nat.le_of_ble_eq_true rfl) dL_law_2382 (fun r_1 S_1 h => ?_)
  refine lq_istore C (lv' := [(5, .int r_1), (4, .int x4), (3, .ref out), (2, .ref (a 0)), (1, .ref x), (0, .ref b)]) (by decide) rfl dL_law_2385 ?_
  refine lq_aload_n C (i := 2) rfl 3 rfl dL_law_2387 ?_
  refine lq_aload_n C (i := 0) rfl 5 rfl dL_law_2388 ?_
  refine lq_iload C 1 rfl dL_law_2389 ?_
  refine lq_iconst C (x := nI 1) rfl dL_law_2391 ?_
  refine lq_iadd C dL_law_2392 ?_
  obtain ⟨hc_2393, h⟩ := h
  refine lq_sldR C hL hc_2393 dL_law_2393 ?_
  refine lq_aload_n C (i := 0) rfl 5 rfl dL_law_2394 ?_
  refine lq_iload C 1 rfl dL_law_2395 ?_
  refine lq_iconst C (x := nI 2) rfl dL_law_2397 ?_
  refine lq_iadd C dL_law_2398 ?_
  obtain ⟨hc_2399, h⟩ := h
  refine lq_sldR C hL hc_2399 dL_law_2399 ?_
  obtain ⟨hc_2400, h⟩ := h
  refine lq_callMW C (s_fuzzy l ((xs ((x4 + ((nI 1)))).toNatClampNeg)) ((xs ((x4 + ((nI 2)))).toNatClampNeg)) v f g h) lM_325 rfl rfl ⟨by decide, by decide⟩ hc_2400 rfl (Nat.le_of_ble_eq_true rfl) dL_law_2400 (fun r_4 v_4 f_4 g_4 h => ?_)
  refine lq_istore C (lv' := [(6, .int r_4), (5, .int r_1), (4, .int x4), (3, .ref out), (2, .ref (a 0)), (1, .ref x), (0, .ref b)]) (by decide) rfl dL_law_2403 ?_
  refine lq_aload_n C (i := 2) rfl 4 rfl dL_law_2405 ?_
  obtain ⟨hc_2406, h⟩ := h
  refine lq_callMW C (s_thrown l  v_4 f_4 g_4 h) lM_192 rfl rfl ⟨by decide, by decide⟩ hc_2406 rfl (Nat.le_of_ble_eq_true rfl) dL_law_2406 (fun r_5 v_5 f_5 g_5 h => ?_)
  refine lq_iload C 1 rfl dL_law_2409 ?_
  obtain ⟨hc_2411, h⟩ := h
  refine lq_icmp_eq C 2416 (by decide) dL_law_2411 (fun _ => ?_) (fun c_ => absurd hc_2411 c_)
  refine lq_iload C 1 rfl dL_law_2416 ?_
  refine lq_if_ne C 2433 (by decide) dL_law_2418 (fun c_ => ?_) (fun c_ => ?_)
  · have h := h.1 c_
    refine lq_goto C 3491 (by decide) dL_law_2433 ?_
    exact lq_sub [2, 3, 4, 5, 6] rfl (lz_tail C hR x4 (cd + mc2) (dd + ms3) S_1 v_5 f_5 g_5 h)
  · have h := h.2 c_
    refine lq_aload_n C (i := 3) rfl 3 rfl dL_law_2421 ?_
    refine lq_iconst C (x := nI 0) rfl dL_law_2422 ?_
    obtain ⟨hc_2423, h⟩ := h
    refine lq_laloadR C hc_2423 dL_law_2423 ?_
    refine lq_iload C 0 rfl dL_law_2424 ?_
    refine lq_i2l C dL_law_2426 ?_
    refine lq_lcmp C dL_law_2427 ?_
    obtain ⟨hc_2428, h⟩ := h
    refine lq_if_eqC C 2433 (by decide) dL_law_2428 (fun _ => ?_) (fun c_ => absurd hc_2428 c_)
    refine lq_goto C 3491 (by decide) dL_law_2433 ?_
    exact lq_sub [2, 3, 4, 5, 6] rfl (lz_tail C hR x4 (cd + mc2) (dd + ms3) S_1 v_5 f_5 g_5 h)
set_option maxHeartbeats 1000000 in
set_option maxRecDepth 20000 in
theorem lz_c40 (C : lC p l s m meth c b L xs D Y tp dp) (hL : L < 2 ^ 31) {R : Int32 → Nat → Nat → cS → (Nat → Int32) → (Nat → Nat → Int32) → (Nat → Nat → Int64) → Prop} (hR : ∀ (x4 : Int32) (cd dd : Nat) (S : cS) (v : Nat → Int32) (f : Nat → Nat → Int32) (g : Nat → Nat → Int64), R x4 cd dd S v f g → lG p l e s m below meth c b D Y cd dd 23 [(4, .int x4), (3, .ref out), (2, .ref (a 0)), (1, .ref x), (0, .ref b)] [] S a v f g) (x4 : Int32) (cd dd : Nat) (S : cS) (v : Nat → Int32) (f : Nat → Nat → Int32) (g : Nat → Nat → Int64) (h : lw_c40 R xs L dp x out x4 cd dd S v f g) : lG p l e s m below meth c b D Y cd dd 2436 [(4, .int x4), (3, .ref out), (2, .ref (a 0)), (1, .ref x), (0, .ref b)] [] S a v f g := by
  have hlt := C.2.2.2.2.2.2.2.2.2.2.1
  unfold lw_c40 at h
  refine lq_aload_n C (i := 1) rfl 3 rfl dL_law_2436 ?_
  refine lq_aload_n C (i := 0) rfl 4 rfl dL_law_2437 ?_
  refine lq_iload C 0 rfl dL_law_2438 ?_
  refine lq_iconst C (x := nI 1) rfl dL_law_2440 ?_
  refine lq_iadd C dL_law_2441 ?_
  obtain ⟨hc_2442, h⟩ := h
  refine lq_sldR C hL hc_2442 dL_law_2442 ?_
  refine lq_aload_n C (i := 0) rfl 4 rfl dL_law_2443 ?_
  refine lq_iload C 0 rfl dL_law_2444 ?_
  refine lq_iconst C (x := nI 2) rfl dL_law_2446 ?_
  refine lq_iadd C dL_law_2447 ?_
  obtain ⟨hc_2448, h⟩ := h
  refine lq_sldR C hL hc_2448 dL_law_2448 ?_
  refine lq_aload_n C (i := 3) rfl 1 rfl dL_law_2449 ?_
  obtain ⟨mc2, ms3, hm_, h⟩ := h
  refine lq_callW C (tw_L_least l hlt mc2 ms3 x ((xs ((x4 + ((nI 1)))).toNatClampNeg)) ((xs ((x4 + ((nI 2)))).toNatClampNeg)) out S dp h) lH_326 rfl rfl ⟨by decide, by decide⟩ hm_ rfl (Nat.le_of_ble_eq_true rfl) dL_law_2450 (fun r_1 S_1 h => ?_)
  refine lq_istore C (lv' := [(5, .int r_1), (4, .int x4), (3, .ref out), (2, .ref (a 0)), (1, .ref x), (0, .ref b)]) (by decide) rfl dL_law_2453 ?_
  refine lq_aload_n C (i := 2) rfl 3 rfl dL_law_2455 ?_
  refine lq_aload_n C (i := 0) rfl 5 rfl dL_law_2456 ?_
  refine lq_iload C 1 rfl dL_law_2457 ?_
  refine lq_iconst C (x := nI 1) rfl dL_law_2459 ?_
  refine lq_iadd C dL_law_2460 ?_
  obtain ⟨hc_2461, h⟩ := h
  refine lq_sldR C hL hc_2461 dL_law_2461 ?_
  refine lq_aload_n C (i := 0) rfl 5 rfl dL_law_2462 ?_
  refine lq_iload C 1 rfl dL_law_2463 ?_
  refine lq_iconst C (x := nI 2) rfl dL_law_2465 ?_
  refine lq_iadd C dL_law_2466 ?_
  obtain ⟨hc_2467, h⟩ := h
  refine lq_sldR C hL hc_2467 dL_law_2467 ?_
  obtain ⟨hc_2468, h⟩ := h
  refine lq_callMW C (s_least l ((xs ((x4 + ((nI 1)))).toNatClampNeg)) ((xs ((x4 + ((nI 2)))).toNatClampNeg)) v f g h) lM_328 rfl rfl ⟨by decide, by decide⟩ hc_2468 rfl (Nat.le_of_ble_eq_true rfl) dL_law_2468 (fun r_4 v_4 f_4 g_4 h => ?_)
  refine lq_istore C (lv' := [(6, .int r_4), (5, .int r_1), (4, .int x4), (3, .ref out), (2, .ref (a 0)), (1, .ref x), (0, .ref b)]) (by decide) rfl dL_law_2471 ?_
  refine lq_aload_n C (i := 2) rfl 4 rfl dL_law_2473 ?_
  obtain ⟨hc_2474, h⟩ := h
  refine lq_callMW C (s_thrown l  v_4 f_4 g_4 h) lM_192 rfl rfl ⟨by decide, by decide⟩ hc_2474 rfl (Nat.le_of_ble_eq_true rfl) dL_law_2474 (fun r_5 v_5 f_5 g_5 h => ?_)
  refine lq_iload C 1 rfl dL_law_2477 ?_
  obtain ⟨hc_2479, h⟩ := h
  refine lq_icmp_eq C 2484 (by decide) dL_law_2479 (fun _ => ?_) (fun c_ => absurd hc_2479 c_)
  refine lq_iload C 1 rfl dL_law_2484 ?_
  refine lq_if_ne C 2501 (by decide) dL_law_2486 (fun c_ => ?_) (fun c_ => ?_)
  · have h := h.1 c_
    refine lq_goto C 3491 (by decide) dL_law_2501 ?_
    exact lq_sub [2, 3, 4, 5, 6] rfl (lz_tail C hR x4 (cd + mc2) (dd + ms3) S_1 v_5 f_5 g_5 h)
  · have h := h.2 c_
    refine lq_aload_n C (i := 3) rfl 3 rfl dL_law_2489 ?_
    refine lq_iconst C (x := nI 0) rfl dL_law_2490 ?_
    obtain ⟨hc_2491, h⟩ := h
    refine lq_laloadR C hc_2491 dL_law_2491 ?_
    refine lq_iload C 0 rfl dL_law_2492 ?_
    refine lq_i2l C dL_law_2494 ?_
    refine lq_lcmp C dL_law_2495 ?_
    obtain ⟨hc_2496, h⟩ := h
    refine lq_if_eqC C 2501 (by decide) dL_law_2496 (fun _ => ?_) (fun c_ => absurd hc_2496 c_)
    refine lq_goto C 3491 (by decide) dL_law_2501 ?_
    exact lq_sub [2, 3, 4, 5, 6] rfl (lz_tail C hR x4 (cd + mc2) (dd + ms3) S_1 v_5 f_5 g_5 h)
set_option maxHeartbeats 1000000 in
set_option maxRecDepth 20000 in
theorem lz_c41 (C : lC p l s m meth c b L xs D Y tp dp) (hL : L < 2 ^ 31) {R : Int32 → Nat → Nat → cS → (Nat → Int32) → (Nat → Nat → Int32) → (Nat → Nat → Int64) → Prop} (hR : ∀ (x4 : Int32) (cd dd : Nat) (S : cS) (v : Nat → Int32) (f : Nat → Nat → Int32) (g : Nat → Nat → Int64), R x4 cd dd S v f g → lG p l e s m below meth c b D Y cd dd 23 [(4, .int x4), (3, .ref out), (2, .ref (a 0)), (1, .ref x), (0, .ref b)] [] S a v f g) (x4 : Int32) (cd dd : Nat) (S : cS) (v : Nat → Int32) (f : Nat → Nat → Int32) (g : Nat → Nat → Int64) (h : lw_c41 R xs L dp x out x4 cd dd S v f g) : lG p l e s m below meth c b D Y cd dd 2504 [(4, .int x4), (3, .ref out), (2, .ref (a 0)), (1, .ref x), (0, .ref b)] [] S a v f g := by
  have hlt := C.2.2.2.2.2.2.2.2.2.2.1
  unfold lw_c41 at h
  refine lq_aload_n C (i := 1) rfl 3 rfl dL_law_2504 ?_
  refine lq_aload_n C (i := 3) rfl 1 rfl dL_law_2505 ?_
  obtain ⟨mc2, ms3, hm_, h⟩ := h
  refine lq_callW C (tw_L_but l hlt mc2 ms3 x out S dp h) lH_329 rfl rfl ⟨by decide, by decide⟩ hm_ rfl (Nat.le_of_ble_eq_true rfl) dL_law_2506 (fun r_1 S_1 h => ?_)
  refine lq_istore C (lv' := [(5, .int r_1), (4, .int x4), (3, .ref out), (2, .ref (a 0)), (1, .ref x), (0, .ref b)]) (by decide) rfl dL_law_2509 ?_
  refine lq_aload_n C (i := 2) rfl 3 rfl dL_law_2511 ?_
  obtain ⟨hc_2512, h⟩ := h
  refine lq_callMW C (s_but l  v f g h) lM_331 rfl rfl ⟨by decide, by decide⟩ hc_2512 rfl (Nat.le_of_ble_eq_true rfl) dL_law_2512 (fun r_4 v_4 f_4 g_4 h => ?_)
  refine lq_istore C (lv' := [(6, .int r_4), (5, .int r_1), (4, .int x4), (3, .ref out), (2, .ref (a 0)), (1, .ref x), (0, .ref b)]) (by decide) rfl dL_law_2515 ?_
  refine lq_aload_n C (i := 2) rfl 4 rfl dL_law_2517 ?_
  obtain ⟨hc_2518, h⟩ := h
  refine lq_callMW C (s_thrown l  v_4 f_4 g_4 h) lM_192 rfl rfl ⟨by decide, by decide⟩ hc_2518 rfl (Nat.le_of_ble_eq_true rfl) dL_law_2518 (fun r_5 v_5 f_5 g_5 h => ?_)
  refine lq_iload C 1 rfl dL_law_2521 ?_
  obtain ⟨hc_2523, h⟩ := h
  refine lq_icmp_eq C 2528 (by decide) dL_law_2523 (fun _ => ?_) (fun c_ => absurd hc_2523 c_)
  refine lq_iload C 1 rfl dL_law_2528 ?_
  refine lq_if_ne C 2545 (by decide) dL_law_2530 (fun c_ => ?_) (fun c_ => ?_)
  · have h := h.1 c_
    refine lq_goto C 3491 (by decide) dL_law_2545 ?_
    exact lq_sub [2, 3, 4, 5, 6] rfl (lz_tail C hR x4 (cd + mc2) (dd + ms3) S_1 v_5 f_5 g_5 h)
  · have h := h.2 c_
    refine lq_aload_n C (i := 3) rfl 3 rfl dL_law_2533 ?_
    refine lq_iconst C (x := nI 0) rfl dL_law_2534 ?_
    obtain ⟨hc_2535, h⟩ := h
    refine lq_laloadR C hc_2535 dL_law_2535 ?_
    refine lq_iload C 0 rfl dL_law_2536 ?_
    refine lq_i2l C dL_law_2538 ?_
    refine lq_lcmp C dL_law_2539 ?_
    obtain ⟨hc_2540, h⟩ := h
    refine lq_if_eqC C 2545 (by decide) dL_law_2540 (fun _ => ?_) (fun c_ => absurd hc_2540 c_)
    refine lq_goto C 3491 (by decide) dL_law_2545 ?_
    exact lq_sub [2, 3, 4, 5, 6] rfl (lz_tail C hR x4 (cd + mc2) (dd + ms3) S_1 v_5 f_5 g_5 h)
set_option maxHeartbeats 1000000 in
set_option maxRecDepth 20000 in
theorem lz_c42 (C : lC p l s m meth c b L xs D Y tp dp) (hL : L < 2 ^ 31) {R : Int32 → Nat → Nat → cS → (Nat → Int32) → (Nat → Nat → Int32) → (Nat → Nat → Int64) → Prop} (hR : ∀ (x4 : Int32) (cd dd : Nat) (S : cS) (v : Nat → Int32) (f : Nat → Nat → Int32) (g : Nat → Nat → Int64), R x4 cd dd S v f g → lG p l e s m below meth c b D Y cd dd 23 [(4, .int x4), (3, .ref out), (2, .ref (a 0)), (1, .ref x), (0, .ref b)] [] S a v f g) (x4 : Int32) (cd dd : Nat) (S : cS) (v : Nat → Int32) (f : Nat → Nat → Int32) (g : Nat → Nat → Int64) (h : lw_c42 R xs L dp x out x4 cd dd S v f g) : lG p l e s m below meth c b D Y cd dd 2548 [(4, .int x4), (3, .ref out), (2, .ref (a 0)), (1, .ref x), (0, .ref b)] [] S a v f g := by
  have hlt := C.2.2.2.2.2.2.2.2.2.2.1
  unfold lw_c42 at h
  refine lq_aload_n C (i := 1) rfl 3 rfl dL_law_2548 ?_
  refine lq_aload_n C (i := 3) rfl 1 rfl dL_law_2549 ?_
  obtain ⟨mc2, ms3, hm_, h⟩ := h
  refine lq_callW C (tw_L_query l hlt mc2 ms3 x out S dp h) lH_332 rfl rfl ⟨by decide, by decide⟩ hm_ rfl (Nat.le_of_ble_eq_true rfl) dL_law_2550 (fun r_1 S_1 h => ?_)
  refine lq_istore C (lv' := [(5, .int r_1), (4, .int x4), (3, .ref out), (2, .ref (a 0)), (1, .ref x), (0, .ref b)]) (by decide) rfl dL_law_2553 ?_
  refine lq_aload_n C (i := 2) rfl 3 rfl dL_law_2555 ?_
  obtain ⟨hc_2556, h⟩ := h
  refine lq_callMW C (s_query l  v f g h) lM_334 rfl rfl ⟨by decide, by decide⟩ hc_2556 rfl (Nat.le_of_ble_eq_true rfl) dL_law_2556 (fun r_4 v_4 f_4 g_4 h => ?_)
  refine lq_istore C (lv' := [(6, .int r_4), (5, .int r_1), (4, .int x4), (3, .ref out), (2, .ref (a 0)), (1, .ref x), (0, .ref b)]) (by decide) rfl dL_law_2559 ?_
  refine lq_aload_n C (i := 2) rfl 4 rfl dL_law_2561 ?_
  obtain ⟨hc_2562, h⟩ := h
  refine lq_callMW C (s_thrown l  v_4 f_4 g_4 h) lM_192 rfl rfl ⟨by decide, by decide⟩ hc_2562 rfl (Nat.le_of_ble_eq_true rfl) dL_law_2562 (fun r_5 v_5 f_5 g_5 h => ?_)
  refine lq_iload C 1 rfl dL_law_2565 ?_
  obtain ⟨hc_2567, h⟩ := h
  refine lq_icmp_eq C 2572 (by decide) dL_law_2567 (fun _ => ?_) (fun c_ => absurd hc_2567 c_)
  refine lq_iload C 1 rfl dL_law_2572 ?_
  refine lq_if_ne C 2589 (by decide) dL_law_2574 (fun c_ => ?_) (fun c_ => ?_)
  · have h := h.1 c_
    refine lq_goto C 3491 (by decide) dL_law_2589 ?_
    exact lq_sub [2, 3, 4, 5, 6] rfl (lz_tail C hR x4 (cd + mc2) (dd + ms3) S_1 v_5 f_5 g_5 h)
  · have h := h.2 c_
    refine lq_aload_n C (i := 3) rfl 3 rfl dL_law_2577 ?_
    refine lq_iconst C (x := nI 0) rfl dL_law_2578 ?_
    obtain ⟨hc_2579, h⟩ := h
    refine lq_laloadR C hc_2579 dL_law_2579 ?_
    refine lq_iload C 0 rfl dL_law_2580 ?_
    refine lq_i2l C dL_law_2582 ?_
    refine lq_lcmp C dL_law_2583 ?_
    obtain ⟨hc_2584, h⟩ := h
    refine lq_if_eqC C 2589 (by decide) dL_law_2584 (fun _ => ?_) (fun c_ => absurd hc_2584 c_)
    refine lq_goto C 3491 (by decide) dL_law_2589 ?_
    exact lq_sub [2, 3, 4, 5, 6] rfl (lz_tail C hR x4 (cd + mc2) (dd + ms3) S_1 v_5 f_5 g_5 h)
set_option maxHeartbeats 1000000 in
set_option maxRecDepth 20000 in
theorem lz_c43 (C : lC p l s m meth c b L xs D Y tp dp) (hL : L < 2 ^ 31) {R : Int32 → Nat → Nat → cS → (Nat → Int32) → (Nat → Nat → Int32) → (Nat → Nat → Int64) → Prop} (hR : ∀ (x4 : Int32) (cd dd : Nat) (S : cS) (v : Nat → Int32) (f : Nat → Nat → Int32) (g : Nat → Nat → Int64), R x4 cd dd S v f g → lG p l e s m below meth c b D Y cd dd 23 [(4, .int x4), (3, .ref out), (2, .ref (a 0)), (1, .ref x), (0, .ref b)] [] S a v f g) (x4 : Int32) (cd dd : Nat) (S : cS) (v : Nat → Int32) (f : Nat → Nat → Int32) (g : Nat → Nat → Int64) (h : lw_c43 R xs L dp x out x4 cd dd S v f g) : lG p l e s m below meth c b D Y cd dd 2592 [(4, .int x4), (3, .ref out), (2, .ref (a 0)), (1, .ref x), (0, .ref b)] [] S a v f g := by
  have hlt := C.2.2.2.2.2.2.2.2.2.2.1
  unfold lw_c43 at h
  refine lq_aload_n C (i := 1) rfl 3 rfl dL_law_2592 ?_
  obtain ⟨hc_2593, h⟩ := h
  obtain ⟨mc2, ms3, hm_, h⟩ := h
  refine lq_callC C (t_X11_scrap l mc2 ms3 x S dp h) cc_L_335 hc_2593.1 hc_2593.2 (by decide) rfl rfl ⟨by decide, by decide⟩ hm_ rfl (Nat.le_of_ble_eq_true rfl) dL_law_2593 (fun r_1 S_1 h => ?_)
  refine lq_aload_n C (i := 2) rfl 2 rfl dL_law_2596 ?_
  obtain ⟨hc_2597, h⟩ := h
  refine lq_callMW C (s_scrap l  v f g h) lM_338 rfl rfl ⟨by decide, by decide⟩ hc_2597 rfl (Nat.le_of_ble_eq_true rfl) dL_law_2597 (fun r_4 v_4 f_4 g_4 h => ?_)
  obtain ⟨hc_2600, h⟩ := h
  refine lq_icmp_eq C 3491 (by decide) dL_law_2600 (fun _ => ?_) (fun c_ => absurd hc_2600 c_)
  exact lq_sub [0, 1, 2, 3, 4] rfl (lz_tail C hR x4 (cd + mc2) (dd + ms3) S_1 v_4 f_4 g_4 h)
set_option maxHeartbeats 1000000 in
set_option maxRecDepth 20000 in
theorem lz_c44 (C : lC p l s m meth c b L xs D Y tp dp) (hL : L < 2 ^ 31) {R : Int32 → Nat → Nat → cS → (Nat → Int32) → (Nat → Nat → Int32) → (Nat → Nat → Int64) → Prop} (hR : ∀ (x4 : Int32) (cd dd : Nat) (S : cS) (v : Nat → Int32) (f : Nat → Nat → Int32) (g : Nat → Nat → Int64), R x4 cd dd S v f g → lG p l e s m below meth c b D Y cd dd 23 [(4, .int x4), (3, .ref out), (2, .ref (a 0)), (1, .ref x), (0, .ref b)] [] S a v f g) (x4 : Int32) (cd dd : Nat) (S : cS) (v : Nat → Int32) (f : Nat → Nat → Int32) (g : Nat → Nat → Int64) (h : lw_c44 R xs L dp x out x4 cd dd S v f g) : lG p l e s m below meth c b D Y cd dd 2605 [(4, .int x4), (3, .ref out), (2, .ref (a 0)), (1, .ref x), (0, .ref b)] [] S a v f g := by
  have hlt := C.2.2.2.2.2.2.2.2.2.2.1
  unfold lw_c44 at h
  refine lq_aload_n C (i := 1) rfl 3 rfl dL_law_2605 ?_
  refine lq_aload_n C (i := 0) rfl 4 rfl dL_law_2606 ?_
  refine lq_iload C 0 rfl dL_law_2607 ?_
  refine lq_iconst C (x := nI 1) rfl dL_law_2609 ?_
  refine lq_iadd C dL_law_2610 ?_
  obtain ⟨hc_2611, h⟩ := h
  refine lq_sldR C hL hc_2611 dL_law_2611 ?_
  refine lq_aload_n C (i := 0) rfl 4 rfl dL_law_2612 ?_
  refine lq_iload C 0 rfl dL_law_2613 ?_
  refine lq_iconst C (x := nI 2) rfl dL_law_2615 ?_
  refine lq_iadd C dL_law_2616 ?_
  obtain ⟨hc_2617, h⟩ := h
  refine lq_sldR C hL hc_2617 dL_law_2617 ?_
  refine lq_aload_n C (i := 3) rfl 1 rfl dL_law_2618 ?_
  obtain ⟨mc2, ms3, hm_, h⟩ := h
  refine lq_callW C (tw_L_weigh l hlt mc2 ms3 x ((xs ((x4 + ((nI 1)))).toNatClampNeg)) ((xs ((x4 + ((nI 2)))).toNatClampNeg)) out S dp h) lH_339 rfl rfl ⟨by decide, by decide⟩ hm_ rfl (Nat.le_of_ble_eq_true rfl) dL_law_2619 (fun r_1 S_1 h => ?_)
  refine lq_istore C (lv' := [(5, .int r_1), (4, .int x4), (3, .ref out), (2, .ref (a 0)), (1, .ref x), (0, .ref b)]) (by decide) rfl dL_law_2622 ?_
  refine lq_aload_n C (i := 2) rfl 3 rfl dL_law_2624 ?_
  refine lq_aload_n C (i := 0) rfl 5 rfl dL_law_2625 ?_
  refine lq_iload C 1 rfl dL_law_2626 ?_
  refine lq_iconst C (x := nI 1) rfl dL_law_2628 ?_
  refine lq_iadd C dL_law_2629 ?_
  obtain ⟨hc_2630, h⟩ := h
  refine lq_sldR C hL hc_2630 dL_law_2630 ?_
  refine lq_aload_n C (i := 0) rfl 5 rfl dL_law_2631 ?_
  refine lq_iload C 1 rfl dL_law_2632 ?_
  refine lq_iconst C (x := nI 2) rfl dL_law_2634 ?_
  refine lq_iadd C dL_law_2635 ?_
  obtain ⟨hc_2636, h⟩ := h
  refine lq_sldR C hL hc_2636 dL_law_2636 ?_
  obtain ⟨hc_2637, h⟩ := h
  refine lq_callMW C (s_weigh l ((xs ((x4 + ((nI 1)))).toNatClampNeg)) ((xs ((x4 + ((nI 2)))).toNatClampNeg)) v f g h) lM_341 rfl rfl ⟨by decide, by decide⟩ hc_2637 rfl (Nat.le_of_ble_eq_true rfl) dL_law_2637 (fun r_4 v_4 f_4 g_4 h => ?_)
  refine lq_istore C (lv' := [(6, .int r_4), (5, .int r_1), (4, .int x4), (3, .ref out), (2, .ref (a 0)), (1, .ref x), (0, .ref b)]) (by decide) rfl dL_law_2640 ?_
  refine lq_aload_n C (i := 2) rfl 4 rfl dL_law_2642 ?_
  obtain ⟨hc_2643, h⟩ := h
  refine lq_callMW C (s_thrown l  v_4 f_4 g_4 h) lM_192 rfl rfl ⟨by decide, by decide⟩ hc_2643 rfl (Nat.le_of_ble_eq_true rfl) dL_law_2643 (fun r_5 v_5 f_5 g_5 h => ?_)
  refine lq_iload C 1 rfl dL_law_2646 ?_
  obtain ⟨hc_2648, h⟩ := h
  refine lq_icmp_eq C 2653 (by decide) dL_law_2648 (fun _ => ?_) (fun c_ => absurd hc_2648 c_)
  refine lq_iload C 1 rfl dL_law_2653 ?_
  refine lq_if_ne C 2670 (by decide) dL_law_2655 (fun c_ => ?_) (fun c_ => ?_)
  · have h := h.1 c_
    refine lq_goto C 3491 (by decide) dL_law_2670 ?_
    exact lq_sub [2, 3, 4, 5, 6] rfl (lz_tail C hR x4 (cd + mc2) (dd + ms3) S_1 v_5 f_5 g_5 h)
  · have h := h.2 c_
    refine lq_aload_n C (i := 3) rfl 3 rfl dL_law_2658 ?_
    refine lq_iconst C (x := nI 0) rfl dL_law_2659 ?_
    obtain ⟨hc_2660, h⟩ := h
    refine lq_laloadR C hc_2660 dL_law_2660 ?_
    refine lq_iload C 0 rfl dL_law_2661 ?_
    refine lq_i2l C dL_law_2663 ?_
    refine lq_lcmp C dL_law_2664 ?_
    obtain ⟨hc_2665, h⟩ := h
    refine lq_if_eqC C 2670 (by decide) dL_law_2665 (fun _ => ?_) (fun c_ => absurd hc_2665 c_)
    refine lq_goto C 3491 (by decide) dL_law_2670 ?_
    exact lq_sub [2, 3, 4, 5, 6] rfl (lz_tail C hR x4 (cd + mc2) (dd + ms3) S_1 v_5 f_5 g_5 h)
set_option maxHeartbeats 1000000 in
set_option maxRecDepth 20000 in
theorem lz_c45 (C : lC p l s m meth c b L xs D Y tp dp) (hL : L < 2 ^ 31) {R : Int32 → Nat → Nat → cS → (Nat → Int32) → (Nat → Nat → Int32) → (Nat → Nat → Int64) → Prop} (hR : ∀ (x4 : Int32) (cd dd : Nat) (S : cS) (v : Nat → Int32) (f : Nat → Nat → Int32) (g : Nat → Nat → Int64), R x4 cd dd S v f g → lG p l e s m below meth c b D Y cd dd 23 [(4, .int x4), (3, .ref out), (2, .ref (a 0)), (1, .ref x), (0, .ref b)] [] S a v f g) (x4 : Int32) (cd dd : Nat) (S : cS) (v : Nat → Int32) (f : Nat → Nat → Int32) (g : Nat → Nat → Int64) (h : lw_c45 R xs L dp x out x4 cd dd S v f g) : lG p l e s m below meth c b D Y cd dd 2673 [(4, .int x4), (3, .ref out), (2, .ref (a 0)), (1, .ref x), (0, .ref b)] [] S a v f g := by
  have hlt := C.2.2.2.2.2.2.2.2.2.2.1
  unfold lw_c45 at h
  refine lq_aload_n C (i := 1) rfl 3 rfl dL_law_2673 ?_
  refine lq_aload_n C (i := 0) rfl 4 rfl dL_law_2674 ?_
  refine lq_iload C 0 rfl dL_law_2675 ?_
  refine lq_iconst C (x := nI 1) rfl dL_law_2677 ?_
  refine lq_iadd C dL_law_2678 ?_
  obtain ⟨hc_2679, h⟩ := h
  refine lq_sldR C hL hc_2679 dL_law_2679 ?_
  refine lq_aload_n C (i := 0) rfl 4 rfl dL_law_2680 ?_
  refine lq_iload C 0 rfl dL_law_2681 ?_
  refine lq_iconst C (x := nI 2) rfl dL_law_2683 ?_
  refine lq_iadd C dL_law_2684 ?_
  obtain ⟨hc_2685, h⟩ := h
  refine lq_sldR C hL hc_2685 dL_law_2685 ?_
  refine lq_aload_n C (i := 0) rfl 4 rfl dL_law_2686 ?_
  refine lq_iload C 0 rfl dL_law_2687 ?_
  refine lq_iconst C (x := nI 3) rfl dL_law_2689 ?_
  refine lq_iadd C dL_law_2690 ?_
  obtain ⟨hc_2691, h⟩ := h
  refine lq_sldR C hL hc_2691 dL_law_2691 ?_
  refine lq_aload_n C (i := 3) rfl 1 rfl dL_law_2692 ?_
  obtain ⟨mc2, ms3, hm_, h⟩ := h
  refine lq_callW C (tw_L_find l hlt mc2 ms3 x ((xs ((x4 + ((nI 1)))).toNatClampNeg)) ((xs ((x4 + ((nI 2)))).toNatClampNeg)) ((xs ((x4 + ((nI 3)))).toNatClampNeg)) out S dp h) lH_342 rfl rfl ⟨by decide, by decide⟩ hm_ rfl (Nat.le_of_ble_eq_true rfl) dL_law_2693 (fun r_1 S_1 h => ?_)
  refine lq_istore C (lv' := [(5, .int r_1), (4, .int x4), (3, .ref out), (2, .ref (a 0)), (1, .ref x), (0, .ref b)]) (by decide) rfl dL_law_2696 ?_
  refine lq_aload_n C (i := 2) rfl 3 rfl dL_law_2698 ?_
  refine lq_aload_n C (i := 0) rfl 5 rfl dL_law_2699 ?_
  refine lq_iload C 1 rfl dL_law_2700 ?_
  refine lq_iconst C (x := nI 1) rfl dL_law_2702 ?_
  refine lq_iadd C dL_law_2703 ?_
  obtain ⟨hc_2704, h⟩ := h
  refine lq_sldR C hL hc_2704 dL_law_2704 ?_
  refine lq_aload_n C (i := 0) rfl 5 rfl dL_law_2705 ?_
  refine lq_iload C 1 rfl dL_law_2706 ?_
  refine lq_iconst C (x := nI 2) rfl dL_law_2708 ?_
  refine lq_iadd C dL_law_2709 ?_
  obtain ⟨hc_2710, h⟩ := h
  refine lq_sldR C hL hc_2710 dL_law_2710 ?_
  refine lq_aload_n C (i := 0) rfl 5 rfl dL_law_2711 ?_
  refine lq_iload C 1 rfl dL_law_2712 ?_
  refine lq_iconst C (x := nI 3) rfl dL_law_2714 ?_
  refine lq_iadd C dL_law_2715 ?_
  obtain ⟨hc_2716, h⟩ := h
  refine lq_sldR C hL hc_2716 dL_law_2716 ?_
  obtain ⟨hc_2717, h⟩ := h
  refine lq_callMW C (s_find l ((xs ((x4 + ((nI 1)))).toNatClampNeg)) ((xs ((x4 + ((nI 2)))).toNatClampNeg)) ((xs ((x4 + ((nI 3)))).toNatClampNeg)) v f g h) lM_344 rfl rfl ⟨by decide, by decide⟩ hc_2717 rfl (Nat.le_of_ble_eq_true rfl) dL_law_2717 (fun r_4 v_4 f_4 g_4 h => ?_)
  refine lq_istore C (lv' := [(6, .int r_4), (5, .int r_1), (4, .int x4), (3, .ref out), (2, .ref (a 0)), (1, .ref x), (0, .ref b)]) (by decide) rfl dL_law_2720 ?_
  refine lq_aload_n C (i := 2) rfl 4 rfl dL_law_2722 ?_
  obtain ⟨hc_2723, h⟩ := h
  refine lq_callMW C (s_thrown l  v_4 f_4 g_4 h) lM_192 rfl rfl ⟨by decide, by decide⟩ hc_2723 rfl (Nat.le_of_ble_eq_true rfl) dL_law_2723 (fun r_5 v_5 f_5 g_5 h => ?_)
  refine lq_iload C 1 rfl dL_law_2726 ?_
  obtain ⟨hc_2728, h⟩ := h
  refine lq_icmp_eq C 2733 (by decide) dL_law_2728 (fun _ => ?_) (fun c_ => absurd hc_2728 c_)
  refine lq_iload C 1 rfl dL_law_2733 ?_
  refine lq_if_ne C 2750 (by decide) dL_law_2735 (fun c_ => ?_) (fun c_ => ?_)
  · have h := h.1 c_
    refine lq_goto C 3491 (by decide) dL_law_2750 ?_
    exact lq_sub [2, 3, 4, 5, 6] rfl (lz_tail C hR x4 (cd + mc2) (dd + ms3) S_1 v_5 f_5 g_5 h)
  · have h := h.2 c_
    refine lq_aload_n C (i := 3) rfl 3 rfl dL_law_2738 ?_
    refine lq_iconst C (x := nI 0) rfl dL_law_2739 ?_
    obtain ⟨hc_2740, h⟩ := h
    refine lq_laloadR C hc_2740 dL_law_2740 ?_
    refine lq_iload C 0 rfl dL_law_2741 ?_
    refine lq_i2l C dL_law_2743 ?_
    refine lq_lcmp C dL_law_2744 ?_
    obtain ⟨hc_2745, h⟩ := h
    refine lq_if_eqC C 2750 (by decide) dL_law_2745 (fun _ => ?_) (fun c_ => absurd hc_2745 c_)
    refine lq_goto C 3491 (by decide) dL_law_2750 ?_
    exact lq_sub [2, 3, 4, 5, 6] rfl (lz_tail C hR x4 (cd + mc2) (dd + ms3) S_1 v_5 f_5 g_5 h)
set_option maxHeartbeats 1000000 in
set_option maxRecDepth 20000 in
theorem lz_c46 (C : lC p l s m meth c b L xs D Y tp dp) (hL : L < 2 ^ 31) {R : Int32 → Nat → Nat → cS → (Nat → Int32) → (Nat → Nat → Int32) → (Nat → Nat → Int64) → Prop} (hR : ∀ (x4 : Int32) (cd dd : Nat) (S : cS) (v : Nat → Int32) (f : Nat → Nat → Int32) (g : Nat → Nat → Int64), R x4 cd dd S v f g → lG p l e s m below meth c b D Y cd dd 23 [(4, .int x4), (3, .ref out), (2, .ref (a 0)), (1, .ref x), (0, .ref b)] [] S a v f g) (x4 : Int32) (cd dd : Nat) (S : cS) (v : Nat → Int32) (f : Nat → Nat → Int32) (g : Nat → Nat → Int64) (h : lw_c46 R xs L dp x out x4 cd dd S v f g) : lG p l e s m below meth c b D Y cd dd 2753 [(4, .int x4), (3, .ref out), (2, .ref (a 0)), (1, .ref x), (0, .ref b)] [] S a v f g := by
  have hlt := C.2.2.2.2.2.2.2.2.2.2.1
  unfold lw_c46 at h
  refine lq_aload_n C (i := 1) rfl 3 rfl dL_law_2753 ?_
  refine lq_aload_n C (i := 0) rfl 4 rfl dL_law_2754 ?_
  refine lq_iload C 0 rfl dL_law_2755 ?_
  refine lq_iconst C (x := nI 1) rfl dL_law_2757 ?_
  refine lq_iadd C dL_law_2758 ?_
  obtain ⟨hc_2759, h⟩ := h
  refine lq_sldR C hL hc_2759 dL_law_2759 ?_
  refine lq_aload_n C (i := 3) rfl 1 rfl dL_law_2760 ?_
  obtain ⟨mc2, ms3, hm_, h⟩ := h
  refine lq_callW C (tw_L_hitAt l hlt mc2 ms3 x ((xs ((x4 + ((nI 1)))).toNatClampNeg)) out S dp h) lH_345 rfl rfl ⟨by decide, by decide⟩ hm_ rfl (Nat.le_of_ble_eq_true rfl) dL_law_2761 (fun r_1 S_1 h => ?_)
  refine lq_istore C (lv' := [(5, .int r_1), (4, .int x4), (3, .ref out), (2, .ref (a 0)), (1, .ref x), (0, .ref b)]) (by decide) rfl dL_law_2764 ?_
  refine lq_aload_n C (i := 2) rfl 3 rfl dL_law_2766 ?_
  refine lq_aload_n C (i := 0) rfl 5 rfl dL_law_2767 ?_
  refine lq_iload C 1 rfl dL_law_2768 ?_
  refine lq_iconst C (x := nI 1) rfl dL_law_2770 ?_
  refine lq_iadd C dL_law_2771 ?_
  obtain ⟨hc_2772, h⟩ := h
  refine lq_sldR C hL hc_2772 dL_law_2772 ?_
  obtain ⟨hc_2773, h⟩ := h
  refine lq_callMW C (s_hitAt l ((xs ((x4 + ((nI 1)))).toNatClampNeg)) v f g h) lM_347 rfl rfl ⟨by decide, by decide⟩ hc_2773 rfl (Nat.le_of_ble_eq_true rfl) dL_law_2773 (fun r_4 v_4 f_4 g_4 h => ?_)
  refine lq_istore C (lv' := [(6, .int r_4), (5, .int r_1), (4, .int x4), (3, .ref out), (2, .ref (a 0)), (1, .ref x), (0, .ref b)]) (by decide) rfl dL_law_2776 ?_
  refine lq_aload_n C (i := 2) rfl 4 rfl dL_law_2778 ?_
  obtain ⟨hc_2779, h⟩ := h
  refine lq_callMW C (s_thrown l  v_4 f_4 g_4 h) lM_192 rfl rfl ⟨by decide, by decide⟩ hc_2779 rfl (Nat.le_of_ble_eq_true rfl) dL_law_2779 (fun r_5 v_5 f_5 g_5 h => ?_)
  refine lq_iload C 1 rfl dL_law_2782 ?_
  obtain ⟨hc_2784, h⟩ := h
  refine lq_icmp_eq C 2789 (by decide) dL_law_2784 (fun _ => ?_) (fun c_ => absurd hc_2784 c_)
  refine lq_iload C 1 rfl dL_law_2789 ?_
  refine lq_if_ne C 2806 (by decide) dL_law_2791 (fun c_ => ?_) (fun c_ => ?_)
  · have h := h.1 c_
    refine lq_goto C 3491 (by decide) dL_law_2806 ?_
    exact lq_sub [2, 3, 4, 5, 6] rfl (lz_tail C hR x4 (cd + mc2) (dd + ms3) S_1 v_5 f_5 g_5 h)
  · have h := h.2 c_
    refine lq_aload_n C (i := 3) rfl 3 rfl dL_law_2794 ?_
    refine lq_iconst C (x := nI 0) rfl dL_law_2795 ?_
    obtain ⟨hc_2796, h⟩ := h
    refine lq_laloadR C hc_2796 dL_law_2796 ?_
    refine lq_iload C 0 rfl dL_law_2797 ?_
    refine lq_i2l C dL_law_2799 ?_
    refine lq_lcmp C dL_law_2800 ?_
    obtain ⟨hc_2801, h⟩ := h
    refine lq_if_eqC C 2806 (by decide) dL_law_2801 (fun _ => ?_) (fun c_ => absurd hc_2801 c_)
    refine lq_goto C 3491 (by decide) dL_law_2806 ?_
    exact lq_sub [2, 3, 4, 5, 6] rfl (lz_tail C hR x4 (cd + mc2) (dd + ms3) S_1 v_5 f_5 g_5 h)
set_option maxHeartbeats 1000000 in
set_option maxRecDepth 20000 in
theorem lz_c47 (C : lC p l s m meth c b L xs D Y tp dp) (hL : L < 2 ^ 31) {R : Int32 → Nat → Nat → cS → (Nat → Int32) → (Nat → Nat → Int32) → (Nat → Nat → Int64) → Prop} (hR : ∀ (x4 : Int32) (cd dd : Nat) (S : cS) (v : Nat → Int32) (f : Nat → Nat → Int32) (g : Nat → Nat → Int64), R x4 cd dd S v f g → lG p l e s m below meth c b D Y cd dd 23 [(4, .int x4), (3, .ref out), (2, .ref (a 0)), (1, .ref x), (0, .ref b)] [] S a v f g) (x4 : Int32) (cd dd : Nat) (S : cS) (v : Nat → Int32) (f : Nat → Nat → Int32) (g : Nat → Nat → Int64) (h : lw_c47 R xs L dp x out x4 cd dd S v f g) : lG p l e s m below meth c b D Y cd dd 2809 [(4, .int x4), (3, .ref out), (2, .ref (a 0)), (1, .ref x), (0, .ref b)] [] S a v f g := by
  have hlt := C.2.2.2.2.2.2.2.2.2.2.1
  unfold lw_c47 at h
  refine lq_aload_n C (i := 1) rfl 3 rfl dL_law_2809 ?_
  refine lq_aload_n C (i := 0) rfl 4 rfl dL_law_2810 ?_
  refine lq_iload C 0 rfl dL_law_2811 ?_
  refine lq_iconst C (x := nI 1) rfl dL_law_2813 ?_
  refine lq_iadd C dL_law_2814 ?_
  obtain ⟨hc_2815, h⟩ := h
  refine lq_sldR C hL hc_2815 dL_law_2815 ?_
  refine lq_aload_n C (i := 3) rfl 1 rfl dL_law_2816 ?_
  obtain ⟨mc2, ms3, hm_, h⟩ := h
  refine lq_callW C (tw_L_rankAt l hlt mc2 ms3 x ((xs ((x4 + ((nI 1)))).toNatClampNeg)) out S dp h) lH_348 rfl rfl ⟨by decide, by decide⟩ hm_ rfl (Nat.le_of_ble_eq_true rfl) dL_law_2817 (fun r_1 S_1 h => ?_)
  refine lq_istore C (lv' := [(5, .int r_1), (4, .int x4), (3, .ref out), (2, .ref (a 0)), (1, .ref x), (0, .ref b)]) (by decide) rfl dL_law_2820 ?_
  refine lq_aload_n C (i := 2) rfl 3 rfl dL_law_2822 ?_
  refine lq_aload_n C (i := 0) rfl 5 rfl dL_law_2823 ?_
  refine lq_iload C 1 rfl dL_law_2824 ?_
  refine lq_iconst C (x := nI 1) rfl dL_law_2826 ?_
  refine lq_iadd C dL_law_2827 ?_
  obtain ⟨hc_2828, h⟩ := h
  refine lq_sldR C hL hc_2828 dL_law_2828 ?_
  obtain ⟨hc_2829, h⟩ := h
  refine lq_callMW C (s_rankAt l ((xs ((x4 + ((nI 1)))).toNatClampNeg)) v f g h) lM_350 rfl rfl ⟨by decide, by decide⟩ hc_2829 rfl (Nat.le_of_ble_eq_true rfl) dL_law_2829 (fun r_4 v_4 f_4 g_4 h => ?_)
  refine lq_istore C (lv' := [(6, .int r_4), (5, .int r_1), (4, .int x4), (3, .ref out), (2, .ref (a 0)), (1, .ref x), (0, .ref b)]) (by decide) rfl dL_law_2832 ?_
  refine lq_aload_n C (i := 2) rfl 4 rfl dL_law_2834 ?_
  obtain ⟨hc_2835, h⟩ := h
  refine lq_callMW C (s_thrown l  v_4 f_4 g_4 h) lM_192 rfl rfl ⟨by decide, by decide⟩ hc_2835 rfl (Nat.le_of_ble_eq_true rfl) dL_law_2835 (fun r_5 v_5 f_5 g_5 h => ?_)
  refine lq_iload C 1 rfl dL_law_2838 ?_
  obtain ⟨hc_2840, h⟩ := h
  refine lq_icmp_eq C 2845 (by decide) dL_law_2840 (fun _ => ?_) (fun c_ => absurd hc_2840 c_)
  refine lq_iload C 1 rfl dL_law_2845 ?_
  refine lq_if_ne C 2862 (by decide) dL_law_2847 (fun c_ => ?_) (fun c_ => ?_)
  · have h := h.1 c_
    refine lq_goto C 3491 (by decide) dL_law_2862 ?_
    exact lq_sub [2, 3, 4, 5, 6] rfl (lz_tail C hR x4 (cd + mc2) (dd + ms3) S_1 v_5 f_5 g_5 h)
  · have h := h.2 c_
    refine lq_aload_n C (i := 3) rfl 3 rfl dL_law_2850 ?_
    refine lq_iconst C (x := nI 0) rfl dL_law_2851 ?_
    obtain ⟨hc_2852, h⟩ := h
    refine lq_laloadR C hc_2852 dL_law_2852 ?_
    refine lq_iload C 0 rfl dL_law_2853 ?_
    refine lq_i2l C dL_law_2855 ?_
    refine lq_lcmp C dL_law_2856 ?_
    obtain ⟨hc_2857, h⟩ := h
    refine lq_if_eqC C 2862 (by decide) dL_law_2857 (fun _ => ?_) (fun c_ => absurd hc_2857 c_)
    refine lq_goto C 3491 (by decide) dL_law_2862 ?_
    exact lq_sub [2, 3, 4, 5, 6] rfl (lz_tail C hR x4 (cd + mc2) (dd + ms3) S_1 v_5 f_5 g_5 h)
set_option maxHeartbeats 1000000 in
set_option maxRecDepth 20000 in
theorem lz_c48 (C : lC p l s m meth c b L xs D Y tp dp) (hL : L < 2 ^ 31) {R : Int32 → Nat → Nat → cS → (Nat → Int32) → (Nat → Nat → Int32) → (Nat → Nat → Int64) → Prop} (hR : ∀ (x4 : Int32) (cd dd : Nat) (S : cS) (v : Nat → Int32) (f : Nat → Nat → Int32) (g : Nat → Nat → Int64), R x4 cd dd S v f g → lG p l e s m below meth c b D Y cd dd 23 [(4, .int x4), (3, .ref out), (2, .ref (a 0)), (1, .ref x), (0, .ref b)] [] S a v f g) (x4 : Int32) (cd dd : Nat) (S : cS) (v : Nat → Int32) (f : Nat → Nat → Int32) (g : Nat → Nat → Int64) (h : lw_c48 R xs L dp x out x4 cd dd S v f g) : lG p l e s m below meth c b D Y cd dd 2865 [(4, .int x4), (3, .ref out), (2, .ref (a 0)), (1, .ref x), (0, .ref b)] [] S a v f g := by
  have hlt := C.2.2.2.2.2.2.2.2.2.2.1
  unfold lw_c48 at h
  refine lq_aload_n C (i := 1) rfl 3 rfl dL_law_2865 ?_
  obtain ⟨hc_2866, h⟩ := h
  obtain ⟨hq_2866, h⟩ := h
  have hm_ := hq_2866
  refine lq_callC C (t_X11_skipped l x S dp h) cc_L_351 hc_2866.1 hc_2866.2 (by decide) rfl rfl ⟨by decide, by decide⟩ hm_ rfl (Nat.le_of_ble_eq_true rfl) dL_law_2866 (fun r_1 S_1 h => ?_)
  simp only [Nat.add_zero]
  refine lq_aload_n C (i := 2) rfl 2 rfl dL_law_2869 ?_
  obtain ⟨hc_2870, h⟩ := h
  refine lq_callMW C (s_skipped l  v f g h) lM_354 rfl rfl ⟨by decide, by decide⟩ hc_2870 rfl (Nat.le_of_ble_eq_true rfl) dL_law_2870 (fun r_4 v_4 f_4 g_4 h => ?_)
  obtain ⟨hc_2873, h⟩ := h
  refine lq_icmp_eq C 3491 (by decide) dL_law_2873 (fun _ => ?_) (fun c_ => absurd hc_2873 c_)
  exact lq_sub [0, 1, 2, 3, 4] rfl (lz_tail C hR x4 cd dd S_1 v_4 f_4 g_4 h)
set_option maxHeartbeats 1000000 in
set_option maxRecDepth 20000 in
theorem lz_c49 (C : lC p l s m meth c b L xs D Y tp dp) (hL : L < 2 ^ 31) {R : Int32 → Nat → Nat → cS → (Nat → Int32) → (Nat → Nat → Int32) → (Nat → Nat → Int64) → Prop} (hR : ∀ (x4 : Int32) (cd dd : Nat) (S : cS) (v : Nat → Int32) (f : Nat → Nat → Int32) (g : Nat → Nat → Int64), R x4 cd dd S v f g → lG p l e s m below meth c b D Y cd dd 23 [(4, .int x4), (3, .ref out), (2, .ref (a 0)), (1, .ref x), (0, .ref b)] [] S a v f g) (x4 : Int32) (cd dd : Nat) (S : cS) (v : Nat → Int32) (f : Nat → Nat → Int32) (g : Nat → Nat → Int64) (h : lw_c49 R xs L dp x out x4 cd dd S v f g) : lG p l e s m below meth c b D Y cd dd 2878 [(4, .int x4), (3, .ref out), (2, .ref (a 0)), (1, .ref x), (0, .ref b)] [] S a v f g := by
  have hlt := C.2.2.2.2.2.2.2.2.2.2.1
  unfold lw_c49 at h
  refine lq_aload_n C (i := 1) rfl 3 rfl dL_law_2878 ?_
  obtain ⟨hc_2879, h⟩ := h
  obtain ⟨hq_2879, h⟩ := h
  have hm_ := hq_2879
  refine lq_callC C (t_X11_cached l x S dp h) cc_L_355 hc_2879.1 hc_2879.2 (by decide) rfl rfl ⟨by decide, by decide⟩ hm_ rfl (Nat.le_of_ble_eq_true rfl) dL_law_2879 (fun r_1 S_1 h => ?_)
  simp only [Nat.add_zero]
  refine lq_aload_n C (i := 2) rfl 2 rfl dL_law_2882 ?_
  obtain ⟨hc_2883, h⟩ := h
  refine lq_callMW C (s_cached l  v f g h) lM_358 rfl rfl ⟨by decide, by decide⟩ hc_2883 rfl (Nat.le_of_ble_eq_true rfl) dL_law_2883 (fun r_4 v_4 f_4 g_4 h => ?_)
  obtain ⟨hc_2886, h⟩ := h
  refine lq_icmp_eq C 3491 (by decide) dL_law_2886 (fun _ => ?_) (fun c_ => absurd hc_2886 c_)
  exact lq_sub [0, 1, 2, 3, 4] rfl (lz_tail C hR x4 cd dd S_1 v_4 f_4 g_4 h)
set_option maxHeartbeats 1000000 in
set_option maxRecDepth 20000 in
theorem lz_c50 (C : lC p l s m meth c b L xs D Y tp dp) (hL : L < 2 ^ 31) {R : Int32 → Nat → Nat → cS → (Nat → Int32) → (Nat → Nat → Int32) → (Nat → Nat → Int64) → Prop} (hR : ∀ (x4 : Int32) (cd dd : Nat) (S : cS) (v : Nat → Int32) (f : Nat → Nat → Int32) (g : Nat → Nat → Int64), R x4 cd dd S v f g → lG p l e s m below meth c b D Y cd dd 23 [(4, .int x4), (3, .ref out), (2, .ref (a 0)), (1, .ref x), (0, .ref b)] [] S a v f g) (x4 : Int32) (cd dd : Nat) (S : cS) (v : Nat → Int32) (f : Nat → Nat → Int32) (g : Nat → Nat → Int64) (h : lw_c50 R xs L dp x out x4 cd dd S v f g) : lG p l e s m below meth c b D Y cd dd 2891 [(4, .int x4), (3, .ref out), (2, .ref (a 0)), (1, .ref x), (0, .ref b)] [] S a v f g := by
  have hlt := C.2.2.2.2.2.2.2.2.2.2.1
  unfold lw_c50 at h
  refine lq_aload_n C (i := 1) rfl 3 rfl dL_law_2891 ?_
  refine lq_aload_n C (i := 0) rfl 4 rfl dL_law_2892 ?_
  refine lq_iload C 0 rfl dL_law_2893 ?_
  refine lq_iconst C (x := nI 1) rfl dL_law_2895 ?_
  refine lq_iadd C dL_law_2896 ?_
  obtain ⟨hc_2897, h⟩ := h
  refine lq_sldR C hL hc_2897 dL_law_2897 ?_
  refine lq_aload_n C (i := 0) rfl 4 rfl dL_law_2898 ?_
  refine lq_iload C 0 rfl dL_law_2899 ?_
  refine lq_iconst C (x := nI 2) rfl dL_law_2901 ?_
  refine lq_iadd C dL_law_2902 ?_
  obtain ⟨hc_2903, h⟩ := h
  refine lq_sldR C hL hc_2903 dL_law_2903 ?_
  refine lq_aload_n C (i := 0) rfl 4 rfl dL_law_2904 ?_
  refine lq_iload C 0 rfl dL_law_2905 ?_
  refine lq_iconst C (x := nI 3) rfl dL_law_2907 ?_
  refine lq_iadd C dL_law_2908 ?_
  obtain ⟨hc_2909, h⟩ := h
  refine lq_sldR C hL hc_2909 dL_law_2909 ?_
  refine lq_aload_n C (i := 3) rfl 1 rfl dL_law_2910 ?_
  obtain ⟨mc2, ms3, hm_, h⟩ := h
  refine lq_callW C (tw_L_rankByScan l hlt mc2 ms3 x ((xs ((x4 + ((nI 1)))).toNatClampNeg)) ((xs ((x4 + ((nI 2)))).toNatClampNeg)) ((xs ((x4 + ((nI 3)))).toNatClampNeg)) out S dp h) lH_359 rfl rfl ⟨by decide, by decide⟩ hm_ rfl (Nat.le_of_ble_eq_true rfl) dL_law_2911 (fun r_1 S_1 h => ?_)
  refine lq_istore C (lv' := [(5, .int r_1), (4, .int x4), (3, .ref out), (2, .ref (a 0)), (1, .ref x), (0, .ref b)]) (by decide) rfl dL_law_2914 ?_
  refine lq_aload_n C (i := 2) rfl 3 rfl dL_law_2916 ?_
  refine lq_aload_n C (i := 0) rfl 5 rfl dL_law_2917 ?_
  refine lq_iload C 1 rfl dL_law_2918 ?_
  refine lq_iconst C (x := nI 1) rfl dL_law_2920 ?_
  refine lq_iadd C dL_law_2921 ?_
  obtain ⟨hc_2922, h⟩ := h
  refine lq_sldR C hL hc_2922 dL_law_2922 ?_
  refine lq_aload_n C (i := 0) rfl 5 rfl dL_law_2923 ?_
  refine lq_iload C 1 rfl dL_law_2924 ?_
  refine lq_iconst C (x := nI 2) rfl dL_law_2926 ?_
  refine lq_iadd C dL_law_2927 ?_
  obtain ⟨hc_2928, h⟩ := h
  refine lq_sldR C hL hc_2928 dL_law_2928 ?_
  refine lq_aload_n C (i := 0) rfl 5 rfl dL_law_2929 ?_
  refine lq_iload C 1 rfl dL_law_2930 ?_
  refine lq_iconst C (x := nI 3) rfl dL_law_2932 ?_
  refine lq_iadd C dL_law_2933 ?_
  obtain ⟨hc_2934, h⟩ := h
  refine lq_sldR C hL hc_2934 dL_law_2934 ?_
  obtain ⟨hc_2935, h⟩ := h
  refine lq_callMW C (s_rankByScan l ((xs ((x4 + ((nI 1)))).toNatClampNeg)) ((xs ((x4 + ((nI 2)))).toNatClampNeg)) ((xs ((x4 + ((nI 3)))).toNatClampNeg)) v f g h) lM_361 rfl rfl ⟨by decide, by decide⟩ hc_2935 rfl (Nat.le_of_ble_eq_true rfl) dL_law_2935 (fun r_4 v_4 f_4 g_4 h => ?_)
  refine lq_istore C (lv' := [(6, .int r_4), (5, .int r_1), (4, .int x4), (3, .ref out), (2, .ref (a 0)), (1, .ref x), (0, .ref b)]) (by decide) rfl dL_law_2938 ?_
  refine lq_aload_n C (i := 2) rfl 4 rfl dL_law_2940 ?_
  obtain ⟨hc_2941, h⟩ := h
  refine lq_callMW C (s_thrown l  v_4 f_4 g_4 h) lM_192 rfl rfl ⟨by decide, by decide⟩ hc_2941 rfl (Nat.le_of_ble_eq_true rfl) dL_law_2941 (fun r_5 v_5 f_5 g_5 h => ?_)
  refine lq_iload C 1 rfl dL_law_2944 ?_
  obtain ⟨hc_2946, h⟩ := h
  refine lq_icmp_eq C 2951 (by decide) dL_law_2946 (fun _ => ?_) (fun c_ => absurd hc_2946 c_)
  refine lq_iload C 1 rfl dL_law_2951 ?_
  refine lq_if_ne C 2968 (by decide) dL_law_2953 (fun c_ => ?_) (fun c_ => ?_)
  · have h := h.1 c_
    refine lq_goto C 3491 (by decide) dL_law_2968 ?_
    exact lq_sub [2, 3, 4, 5, 6] rfl (lz_tail C hR x4 (cd + mc2) (dd + ms3) S_1 v_5 f_5 g_5 h)
  · have h := h.2 c_
    refine lq_aload_n C (i := 3) rfl 3 rfl dL_law_2956 ?_
    refine lq_iconst C (x := nI 0) rfl dL_law_2957 ?_
    obtain ⟨hc_2958, h⟩ := h
    refine lq_laloadR C hc_2958 dL_law_2958 ?_
    refine lq_iload C 0 rfl dL_law_2959 ?_
    refine lq_i2l C dL_law_2961 ?_
    refine lq_lcmp C dL_law_2962 ?_
    obtain ⟨hc_2963, h⟩ := h
    refine lq_if_eqC C 2968 (by decide) dL_law_2963 (fun _ => ?_) (fun c_ => absurd hc_2963 c_)
    refine lq_goto C 3491 (by decide) dL_law_2968 ?_
    exact lq_sub [2, 3, 4, 5, 6] rfl (lz_tail C hR x4 (cd + mc2) (dd + ms3) S_1 v_5 f_5 g_5 h)
set_option maxHeartbeats 1000000 in
set_option maxRecDepth 20000 in
theorem lz_c51 (C : lC p l s m meth c b L xs D Y tp dp) (hL : L < 2 ^ 31) {R : Int32 → Nat → Nat → cS → (Nat → Int32) → (Nat → Nat → Int32) → (Nat → Nat → Int64) → Prop} (hR : ∀ (x4 : Int32) (cd dd : Nat) (S : cS) (v : Nat → Int32) (f : Nat → Nat → Int32) (g : Nat → Nat → Int64), R x4 cd dd S v f g → lG p l e s m below meth c b D Y cd dd 23 [(4, .int x4), (3, .ref out), (2, .ref (a 0)), (1, .ref x), (0, .ref b)] [] S a v f g) (x4 : Int32) (cd dd : Nat) (S : cS) (v : Nat → Int32) (f : Nat → Nat → Int32) (g : Nat → Nat → Int64) (h : lw_c51 R xs L dp x out x4 cd dd S v f g) : lG p l e s m below meth c b D Y cd dd 2971 [(4, .int x4), (3, .ref out), (2, .ref (a 0)), (1, .ref x), (0, .ref b)] [] S a v f g := by
  have hlt := C.2.2.2.2.2.2.2.2.2.2.1
  unfold lw_c51 at h
  refine lq_aload_n C (i := 1) rfl 3 rfl dL_law_2971 ?_
  refine lq_aload_n C (i := 0) rfl 4 rfl dL_law_2972 ?_
  refine lq_iload C 0 rfl dL_law_2973 ?_
  refine lq_iconst C (x := nI 1) rfl dL_law_2975 ?_
  refine lq_iadd C dL_law_2976 ?_
  obtain ⟨hc_2977, h⟩ := h
  refine lq_sldR C hL hc_2977 dL_law_2977 ?_
  refine lq_aload_n C (i := 0) rfl 4 rfl dL_law_2978 ?_
  refine lq_iload C 0 rfl dL_law_2979 ?_
  refine lq_iconst C (x := nI 2) rfl dL_law_2981 ?_
  refine lq_iadd C dL_law_2982 ?_
  obtain ⟨hc_2983, h⟩ := h
  refine lq_sldR C hL hc_2983 dL_law_2983 ?_
  refine lq_aload_n C (i := 3) rfl 1 rfl dL_law_2984 ?_
  obtain ⟨mc2, ms3, hm_, h⟩ := h
  refine lq_callW C (tw_L_matches l hlt mc2 ms3 x ((xs ((x4 + ((nI 1)))).toNatClampNeg)) ((xs ((x4 + ((nI 2)))).toNatClampNeg)) out S dp h) lH_362 rfl rfl ⟨by decide, by decide⟩ hm_ rfl (Nat.le_of_ble_eq_true rfl) dL_law_2985 (fun r_1 S_1 h => ?_)
  refine lq_istore C (lv' := [(5, .int r_1), (4, .int x4), (3, .ref out), (2, .ref (a 0)), (1, .ref x), (0, .ref b)]) (by decide) rfl dL_law_2988 ?_
  refine lq_aload_n C (i := 2) rfl 3 rfl dL_law_2990 ?_
  refine lq_aload_n C (i := 0) rfl 5 rfl dL_law_2991 ?_
  refine lq_iload C 1 rfl dL_law_2992 ?_
  refine lq_iconst C (x := nI 1) rfl dL_law_2994 ?_
  refine lq_iadd C dL_law_2995 ?_
  obtain ⟨hc_2996, h⟩ := h
  refine lq_sldR C hL hc_2996 dL_law_2996 ?_
  refine lq_aload_n C (i := 0) rfl 5 rfl dL_law_2997 ?_
  refine lq_iload C 1 rfl dL_law_2998 ?_
  refine lq_iconst C (x := nI 2) rfl dL_law_3000 ?_
  refine lq_iadd C dL_law_3001 ?_
  obtain ⟨hc_3002, h⟩ := h
  refine lq_sldR C hL hc_3002 dL_law_3002 ?_
  obtain ⟨hc_3003, h⟩ := h
  refine lq_callMW C (s_matches l ((xs ((x4 + ((nI 1)))).toNatClampNeg)) ((xs ((x4 + ((nI 2)))).toNatClampNeg)) v f g h) lM_364 rfl rfl ⟨by decide, by decide⟩ hc_3003 rfl (Nat.le_of_ble_eq_true rfl) dL_law_3003 (fun r_4 v_4 f_4 g_4 h => ?_)
  refine lq_istore C (lv' := [(6, .int r_4), (5, .int r_1), (4, .int x4), (3, .ref out), (2, .ref (a 0)), (1, .ref x), (0, .ref b)]) (by decide) rfl dL_law_3006 ?_
  refine lq_aload_n C (i := 2) rfl 4 rfl dL_law_3008 ?_
  obtain ⟨hc_3009, h⟩ := h
  refine lq_callMW C (s_thrown l  v_4 f_4 g_4 h) lM_192 rfl rfl ⟨by decide, by decide⟩ hc_3009 rfl (Nat.le_of_ble_eq_true rfl) dL_law_3009 (fun r_5 v_5 f_5 g_5 h => ?_)
  refine lq_iload C 1 rfl dL_law_3012 ?_
  obtain ⟨hc_3014, h⟩ := h
  refine lq_icmp_eq C 3019 (by decide) dL_law_3014 (fun _ => ?_) (fun c_ => absurd hc_3014 c_)
  refine lq_iload C 1 rfl dL_law_3019 ?_
  refine lq_if_ne C 3036 (by decide) dL_law_3021 (fun c_ => ?_) (fun c_ => ?_)
  · have h := h.1 c_
    refine lq_goto C 3491 (by decide) dL_law_3036 ?_
    exact lq_sub [2, 3, 4, 5, 6] rfl (lz_tail C hR x4 (cd + mc2) (dd + ms3) S_1 v_5 f_5 g_5 h)
  · have h := h.2 c_
    refine lq_aload_n C (i := 3) rfl 3 rfl dL_law_3024 ?_
    refine lq_iconst C (x := nI 0) rfl dL_law_3025 ?_
    obtain ⟨hc_3026, h⟩ := h
    refine lq_laloadR C hc_3026 dL_law_3026 ?_
    refine lq_iload C 0 rfl dL_law_3027 ?_
    refine lq_i2l C dL_law_3029 ?_
    refine lq_lcmp C dL_law_3030 ?_
    obtain ⟨hc_3031, h⟩ := h
    refine lq_if_eqC C 3036 (by decide) dL_law_3031 (fun _ => ?_) (fun c_ => absurd hc_3031 c_)
    refine lq_goto C 3491 (by decide) dL_law_3036 ?_
    exact lq_sub [2, 3, 4, 5, 6] rfl (lz_tail C hR x4 (cd + mc2) (dd + ms3) S_1 v_5 f_5 g_5 h)
set_option maxHeartbeats 1000000 in
set_option maxRecDepth 20000 in
theorem lz_c52 (C : lC p l s m meth c b L xs D Y tp dp) (hL : L < 2 ^ 31) {R : Int32 → Nat → Nat → cS → (Nat → Int32) → (Nat → Nat → Int32) → (Nat → Nat → Int64) → Prop} (hR : ∀ (x4 : Int32) (cd dd : Nat) (S : cS) (v : Nat → Int32) (f : Nat → Nat → Int32) (g : Nat → Nat → Int64), R x4 cd dd S v f g → lG p l e s m below meth c b D Y cd dd 23 [(4, .int x4), (3, .ref out), (2, .ref (a 0)), (1, .ref x), (0, .ref b)] [] S a v f g) (x4 : Int32) (cd dd : Nat) (S : cS) (v : Nat → Int32) (f : Nat → Nat → Int32) (g : Nat → Nat → Int64) (h : lw_c52 R xs L dp x out x4 cd dd S v f g) : lG p l e s m below meth c b D Y cd dd 3039 [(4, .int x4), (3, .ref out), (2, .ref (a 0)), (1, .ref x), (0, .ref b)] [] S a v f g := by
  have hlt := C.2.2.2.2.2.2.2.2.2.2.1
  unfold lw_c52 at h
  refine lq_aload_n C (i := 1) rfl 3 rfl dL_law_3039 ?_
  refine lq_aload_n C (i := 0) rfl 4 rfl dL_law_3040 ?_
  refine lq_iload C 0 rfl dL_law_3041 ?_
  refine lq_iconst C (x := nI 1) rfl dL_law_3043 ?_
  refine lq_iadd C dL_law_3044 ?_
  obtain ⟨hc_3045, h⟩ := h
  refine lq_sldR C hL hc_3045 dL_law_3045 ?_
  refine lq_aload_n C (i := 0) rfl 4 rfl dL_law_3046 ?_
  refine lq_iload C 0 rfl dL_law_3047 ?_
  refine lq_iconst C (x := nI 2) rfl dL_law_3049 ?_
  refine lq_iadd C dL_law_3050 ?_
  obtain ⟨hc_3051, h⟩ := h
  refine lq_sldR C hL hc_3051 dL_law_3051 ?_
  refine lq_aload_n C (i := 3) rfl 1 rfl dL_law_3052 ?_
  obtain ⟨mc2, ms3, hm_, h⟩ := h
  refine lq_callW C (tw_L_matchesByScan l hlt mc2 ms3 x ((xs ((x4 + ((nI 1)))).toNatClampNeg)) ((xs ((x4 + ((nI 2)))).toNatClampNeg)) out S dp h) lH_365 rfl rfl ⟨by decide, by decide⟩ hm_ rfl (Nat.le_of_ble_eq_true rfl) dL_law_3053 (fun r_1 S_1 h => ?_)
  refine lq_istore C (lv' := [(5, .int r_1), (4, .int x4), (3, .ref out), (2, .ref (a 0)), (1, .ref x), (0, .ref b)]) (by decide) rfl dL_law_3056 ?_
  refine lq_aload_n C (i := 2) rfl 3 rfl dL_law_3058 ?_
  refine lq_aload_n C (i := 0) rfl 5 rfl dL_law_3059 ?_
  refine lq_iload C 1 rfl dL_law_3060 ?_
  refine lq_iconst C (x := nI 1) rfl dL_law_3062 ?_
  refine lq_iadd C dL_law_3063 ?_
  obtain ⟨hc_3064, h⟩ := h
  refine lq_sldR C hL hc_3064 dL_law_3064 ?_
  refine lq_aload_n C (i := 0) rfl 5 rfl dL_law_3065 ?_
  refine lq_iload C 1 rfl dL_law_3066 ?_
  refine lq_iconst C (x := nI 2) rfl dL_law_3068 ?_
  refine lq_iadd C dL_law_3069 ?_
  obtain ⟨hc_3070, h⟩ := h
  refine lq_sldR C hL hc_3070 dL_law_3070 ?_
  obtain ⟨hc_3071, h⟩ := h
  refine lq_callMW C (s_matchesByScan l ((xs ((x4 + ((nI 1)))).toNatClampNeg)) ((xs ((x4 + ((nI 2)))).toNatClampNeg)) v f g h) lM_367 rfl rfl ⟨by decide, by decide⟩ hc_3071 rfl (Nat.le_of_ble_eq_true rfl) dL_law_3071 (fun r_4 v_4 f_4 g_4 h => ?_)
  refine lq_istore C (lv' := [(6, .int r_4), (5, .int r_1), (4, .int x4), (3, .ref out), (2, .ref (a 0)), (1, .ref x), (0, .ref b)]) (by decide) rfl dL_law_3074 ?_
  refine lq_aload_n C (i := 2) rfl 4 rfl dL_law_3076 ?_
  obtain ⟨hc_3077, h⟩ := h
  refine lq_callMW C (s_thrown l  v_4 f_4 g_4 h) lM_192 rfl rfl ⟨by decide, by decide⟩ hc_3077 rfl (Nat.le_of_ble_eq_true rfl) dL_law_3077 (fun r_5 v_5 f_5 g_5 h => ?_)
  refine lq_iload C 1 rfl dL_law_3080 ?_
  obtain ⟨hc_3082, h⟩ := h
  refine lq_icmp_eq C 3087 (by decide) dL_law_3082 (fun _ => ?_) (fun c_ => absurd hc_3082 c_)
  refine lq_iload C 1 rfl dL_law_3087 ?_
  refine lq_if_ne C 3104 (by decide) dL_law_3089 (fun c_ => ?_) (fun c_ => ?_)
  · have h := h.1 c_
    refine lq_goto C 3491 (by decide) dL_law_3104 ?_
    exact lq_sub [2, 3, 4, 5, 6] rfl (lz_tail C hR x4 (cd + mc2) (dd + ms3) S_1 v_5 f_5 g_5 h)
  · have h := h.2 c_
    refine lq_aload_n C (i := 3) rfl 3 rfl dL_law_3092 ?_
    refine lq_iconst C (x := nI 0) rfl dL_law_3093 ?_
    obtain ⟨hc_3094, h⟩ := h
    refine lq_laloadR C hc_3094 dL_law_3094 ?_
    refine lq_iload C 0 rfl dL_law_3095 ?_
    refine lq_i2l C dL_law_3097 ?_
    refine lq_lcmp C dL_law_3098 ?_
    obtain ⟨hc_3099, h⟩ := h
    refine lq_if_eqC C 3104 (by decide) dL_law_3099 (fun _ => ?_) (fun c_ => absurd hc_3099 c_)
    refine lq_goto C 3491 (by decide) dL_law_3104 ?_
    exact lq_sub [2, 3, 4, 5, 6] rfl (lz_tail C hR x4 (cd + mc2) (dd + ms3) S_1 v_5 f_5 g_5 h)
set_option maxHeartbeats 1000000 in
set_option maxRecDepth 20000 in
theorem lz_c53 (C : lC p l s m meth c b L xs D Y tp dp) (hL : L < 2 ^ 31) {R : Int32 → Nat → Nat → cS → (Nat → Int32) → (Nat → Nat → Int32) → (Nat → Nat → Int64) → Prop} (hR : ∀ (x4 : Int32) (cd dd : Nat) (S : cS) (v : Nat → Int32) (f : Nat → Nat → Int32) (g : Nat → Nat → Int64), R x4 cd dd S v f g → lG p l e s m below meth c b D Y cd dd 23 [(4, .int x4), (3, .ref out), (2, .ref (a 0)), (1, .ref x), (0, .ref b)] [] S a v f g) (x4 : Int32) (cd dd : Nat) (S : cS) (v : Nat → Int32) (f : Nat → Nat → Int32) (g : Nat → Nat → Int64) (h : lw_c53 R xs L dp x out x4 cd dd S v f g) : lG p l e s m below meth c b D Y cd dd 3107 [(4, .int x4), (3, .ref out), (2, .ref (a 0)), (1, .ref x), (0, .ref b)] [] S a v f g := by
  have hlt := C.2.2.2.2.2.2.2.2.2.2.1
  unfold lw_c53 at h
  refine lq_aload_n C (i := 1) rfl 3 rfl dL_law_3107 ?_
  refine lq_aload_n C (i := 0) rfl 4 rfl dL_law_3108 ?_
  refine lq_iload C 0 rfl dL_law_3109 ?_
  refine lq_iconst C (x := nI 1) rfl dL_law_3111 ?_
  refine lq_iadd C dL_law_3112 ?_
  obtain ⟨hc_3113, h⟩ := h
  refine lq_sldR C hL hc_3113 dL_law_3113 ?_
  refine lq_aload_n C (i := 0) rfl 4 rfl dL_law_3114 ?_
  refine lq_iload C 0 rfl dL_law_3115 ?_
  refine lq_iconst C (x := nI 2) rfl dL_law_3117 ?_
  refine lq_iadd C dL_law_3118 ?_
  obtain ⟨hc_3119, h⟩ := h
  refine lq_sldR C hL hc_3119 dL_law_3119 ?_
  refine lq_aload_n C (i := 0) rfl 4 rfl dL_law_3120 ?_
  refine lq_iload C 0 rfl dL_law_3121 ?_
  refine lq_iconst C (x := nI 3) rfl dL_law_3123 ?_
  refine lq_iadd C dL_law_3124 ?_
  obtain ⟨hc_3125, h⟩ := h
  refine lq_sldR C hL hc_3125 dL_law_3125 ?_
  refine lq_aload_n C (i := 3) rfl 1 rfl dL_law_3126 ?_
  obtain ⟨mc2, ms3, hm_, h⟩ := h
  refine lq_callW C (tw_L_facet l hlt mc2 ms3 x ((xs ((x4 + ((nI 1)))).toNatClampNeg)) ((xs ((x4 + ((nI 2)))).toNatClampNeg)) ((xs ((x4 + ((nI 3)))).toNatClampNeg)) out S dp h) lH_368 rfl rfl ⟨by decide, by decide⟩ hm_ rfl (Nat.le_of_ble_eq_true rfl) dL_law_3127 (fun r_1 S_1 h => ?_)
  refine lq_istore C (lv' := [(5, .int r_1), (4, .int x4), (3, .ref out), (2, .ref (a 0)), (1, .ref x), (0, .ref b)]) (by decide) rfl dL_law_3130 ?_
  refine lq_aload_n C (i := 2) rfl 3 rfl dL_law_3132 ?_
  refine lq_aload_n C (i := 0) rfl 5 rfl dL_law_3133 ?_
  refine lq_iload C 1 rfl dL_law_3134 ?_
  refine lq_iconst C (x := nI 1) rfl dL_law_3136 ?_
  refine lq_iadd C dL_law_3137 ?_
  obtain ⟨hc_3138, h⟩ := h
  refine lq_sldR C hL hc_3138 dL_law_3138 ?_
  refine lq_aload_n C (i := 0) rfl 5 rfl dL_law_3139 ?_
  refine lq_iload C 1 rfl dL_law_3140 ?_
  refine lq_iconst C (x := nI 2) rfl dL_law_3142 ?_
  refine lq_iadd C dL_law_3143 ?_
  obtain ⟨hc_3144, h⟩ := h
  refine lq_sldR C hL hc_3144 dL_law_3144 ?_
  refine lq_aload_n C (i := 0) rfl 5 rfl dL_law_3145 ?_
  refine lq_iload C 1 rfl dL_law_3146 ?_
  refine lq_iconst C (x := nI 3) rfl dL_law_3148 ?_
  refine lq_iadd C dL_law_3149 ?_
  obtain ⟨hc_3150, h⟩ := h
  refine lq_sldR C hL hc_3150 dL_law_3150 ?_
  obtain ⟨hc_3151, h⟩ := h
  refine lq_callMW C (s_facet l ((xs ((x4 + ((nI 1)))).toNatClampNeg)) ((xs ((x4 + ((nI 2)))).toNatClampNeg)) ((xs ((x4 + ((nI 3)))).toNatClampNeg)) v f g h) lM_370 rfl rfl ⟨by decide, by decide⟩ hc_3151 rfl (Nat.le_of_ble_eq_true rfl) dL_law_3151 (fun r_4 v_4 f_4 g_4 h => ?_)
  refine lq_istore C (lv' := [(6, .int r_4), (5, .int r_1), (4, .int x4), (3, .ref out), (2, .ref (a 0)), (1, .ref x), (0, .ref b)]) (by decide) rfl dL_law_3154 ?_
  refine lq_aload_n C (i := 2) rfl 4 rfl dL_law_3156 ?_
  obtain ⟨hc_3157, h⟩ := h
  refine lq_callMW C (s_thrown l  v_4 f_4 g_4 h) lM_192 rfl rfl ⟨by decide, by decide⟩ hc_3157 rfl (Nat.le_of_ble_eq_true rfl) dL_law_3157 (fun r_5 v_5 f_5 g_5 h => ?_)
  refine lq_iload C 1 rfl dL_law_3160 ?_
  obtain ⟨hc_3162, h⟩ := h
  refine lq_icmp_eq C 3167 (by decide) dL_law_3162 (fun _ => ?_) (fun c_ => absurd hc_3162 c_)
  refine lq_iload C 1 rfl dL_law_3167 ?_
  refine lq_if_ne C 3184 (by decide) dL_law_3169 (fun c_ => ?_) (fun c_ => ?_)
  · have h := h.1 c_
    refine lq_goto C 3491 (by decide) dL_law_3184 ?_
    exact lq_sub [2, 3, 4, 5, 6] rfl (lz_tail C hR x4 (cd + mc2) (dd + ms3) S_1 v_5 f_5 g_5 h)
  · have h := h.2 c_
    refine lq_aload_n C (i := 3) rfl 3 rfl dL_law_3172 ?_
    refine lq_iconst C (x := nI 0) rfl dL_law_3173 ?_
    obtain ⟨hc_3174, h⟩ := h
    refine lq_laloadR C hc_3174 dL_law_3174 ?_
    refine lq_iload C 0 rfl dL_law_3175 ?_
    refine lq_i2l C dL_law_3177 ?_
    refine lq_lcmp C dL_law_3178 ?_
    obtain ⟨hc_3179, h⟩ := h
    refine lq_if_eqC C 3184 (by decide) dL_law_3179 (fun _ => ?_) (fun c_ => absurd hc_3179 c_)
    refine lq_goto C 3491 (by decide) dL_law_3184 ?_
    exact lq_sub [2, 3, 4, 5, 6] rfl (lz_tail C hR x4 (cd + mc2) (dd + ms3) S_1 v_5 f_5 g_5 h)
set_option maxHeartbeats 1000000 in
set_option maxRecDepth 20000 in
theorem lz_c54 (C : lC p l s m meth c b L xs D Y tp dp) (hL : L < 2 ^ 31) {R : Int32 → Nat → Nat → cS → (Nat → Int32) → (Nat → Nat → Int32) → (Nat → Nat → Int64) → Prop} (hR : ∀ (x4 : Int32) (cd dd : Nat) (S : cS) (v : Nat → Int32) (f : Nat → Nat → Int32) (g : Nat → Nat → Int64), R x4 cd dd S v f g → lG p l e s m below meth c b D Y cd dd 23 [(4, .int x4), (3, .ref out), (2, .ref (a 0)), (1, .ref x), (0, .ref b)] [] S a v f g) (x4 : Int32) (cd dd : Nat) (S : cS) (v : Nat → Int32) (f : Nat → Nat → Int32) (g : Nat → Nat → Int64) (h : lw_c54 R xs L dp x out x4 cd dd S v f g) : lG p l e s m below meth c b D Y cd dd 3187 [(4, .int x4), (3, .ref out), (2, .ref (a 0)), (1, .ref x), (0, .ref b)] [] S a v f g := by
  have hlt := C.2.2.2.2.2.2.2.2.2.2.1
  unfold lw_c54 at h
  refine lq_aload_n C (i := 1) rfl 3 rfl dL_law_3187 ?_
  refine lq_aload_n C (i := 0) rfl 4 rfl dL_law_3188 ?_
  refine lq_iload C 0 rfl dL_law_3189 ?_
  refine lq_iconst C (x := nI 1) rfl dL_law_3191 ?_
  refine lq_iadd C dL_law_3192 ?_
  obtain ⟨hc_3193, h⟩ := h
  refine lq_sldR C hL hc_3193 dL_law_3193 ?_
  refine lq_aload_n C (i := 0) rfl 4 rfl dL_law_3194 ?_
  refine lq_iload C 0 rfl dL_law_3195 ?_
  refine lq_iconst C (x := nI 2) rfl dL_law_3197 ?_
  refine lq_iadd C dL_law_3198 ?_
  obtain ⟨hc_3199, h⟩ := h
  refine lq_sldR C hL hc_3199 dL_law_3199 ?_
  refine lq_aload_n C (i := 0) rfl 4 rfl dL_law_3200 ?_
  refine lq_iload C 0 rfl dL_law_3201 ?_
  refine lq_iconst C (x := nI 3) rfl dL_law_3203 ?_
  refine lq_iadd C dL_law_3204 ?_
  obtain ⟨hc_3205, h⟩ := h
  refine lq_sldR C hL hc_3205 dL_law_3205 ?_
  refine lq_if_eq C 3213 (by decide) dL_law_3206 (fun c_ => ?_) (fun c_ => ?_)
  · have h := h.1 c_
    refine lq_iconst C (x := nI 0) rfl dL_law_3213 ?_
    refine lq_aload_n C (i := 0) rfl 4 rfl dL_law_3214 ?_
    refine lq_iload C 0 rfl dL_law_3215 ?_
    refine lq_iconst C (x := nI 4) rfl dL_law_3217 ?_
    refine lq_iadd C dL_law_3218 ?_
    obtain ⟨hc_3219, h⟩ := h
    refine lq_sldR C hL hc_3219 dL_law_3219 ?_
    refine lq_aload_n C (i := 3) rfl 1 rfl dL_law_3220 ?_
    obtain ⟨mc2, ms3, hm_, h⟩ := h
    refine lq_callW C (tw_L_sortedAt l hlt mc2 ms3 x ((xs ((x4 + ((nI 1)))).toNatClampNeg)) ((xs ((x4 + ((nI 2)))).toNatClampNeg)) ((nI 0)) ((xs ((x4 + ((nI 4)))).toNatClampNeg)) out S dp h) lH_371 rfl rfl ⟨by decide, by decide⟩ hm_ rfl (Nat.le_of_ble_eq_true rfl) dL_law_3221 (fun r_1 S_1 h => ?_)
    refine lq_istore C (lv' := [(5, .int r_1), (4, .int x4), (3, .ref out), (2, .ref (a 0)), (1, .ref x), (0, .ref b)]) (by decide) rfl dL_law_3224 ?_
    refine lq_aload_n C (i := 2) rfl 3 rfl dL_law_3226 ?_
    refine lq_aload_n C (i := 0) rfl 5 rfl dL_law_3227 ?_
    refine lq_iload C 1 rfl dL_law_3228 ?_
    refine lq_iconst C (x := nI 1) rfl dL_law_3230 ?_
    refine lq_iadd C dL_law_3231 ?_
    obtain ⟨hc_3232, h⟩ := h
    refine lq_sldR C hL hc_3232 dL_law_3232 ?_
    refine lq_aload_n C (i := 0) rfl 5 rfl dL_law_3233 ?_
    refine lq_iload C 1 rfl dL_law_3234 ?_
    refine lq_iconst C (x := nI 2) rfl dL_law_3236 ?_
    refine lq_iadd C dL_law_3237 ?_
    obtain ⟨hc_3238, h⟩ := h
    refine lq_sldR C hL hc_3238 dL_law_3238 ?_
    refine lq_aload_n C (i := 0) rfl 5 rfl dL_law_3239 ?_
    refine lq_iload C 1 rfl dL_law_3240 ?_
    refine lq_iconst C (x := nI 3) rfl dL_law_3242 ?_
    refine lq_iadd C dL_law_3243 ?_
    obtain ⟨hc_3244, h⟩ := h
    refine lq_sldR C hL hc_3244 dL_law_3244 ?_
    refine lq_if_eq C 3252 (by decide) dL_law_3245 (fun c_ => ?_) (fun c_ => ?_)
    · have h := h.1 c_
      refine lq_iconst C (x := nI 0) rfl dL_law_3252 ?_
      refine lq_aload_n C (i := 0) rfl 5 rfl dL_law_3253 ?_
      refine lq_iload C 1 rfl dL_law_3254 ?_
      refine lq_iconst C (x := nI 4) rfl dL_law_3256 ?_
      refine lq_iadd C dL_law_3257 ?_
      obtain ⟨hc_3258, h⟩ := h
      refine lq_sldR C hL hc_3258 dL_law_3258 ?_
      obtain ⟨hc_3259, h⟩ := h
      refine lq_callMW C (s_sortedAt l ((xs ((x4 + ((nI 1)))).toNatClampNeg)) ((xs ((x4 + ((nI 2)))).toNatClampNeg)) ((nI 0)) ((xs ((x4 + ((nI 4)))).toNatClampNeg)) v f g h) lM_374 rfl rfl ⟨by decide, by decide⟩ hc_3259 rfl (Nat.le_of_ble_eq_true rfl) dL_law_3259 (fun r_4 v_4 f_4 g_4 h => ?_)
      refine lq_istore C (lv' := [(6, .int r_4), (5, .int r_1), (4, .int x4), (3, .ref out), (2, .ref (a 0)), (1, .ref x), (0, .ref b)]) (by decide) rfl dL_law_3262 ?_
      refine lq_aload_n C (i := 2) rfl 4 rfl dL_law_3264 ?_
      obtain ⟨hc_3265, h⟩ := h
      refine lq_callMW C (s_thrown l  v_4 f_4 g_4 h) lM_192 rfl rfl ⟨by decide, by decide⟩ hc_3265 rfl (Nat.le_of_ble_eq_true rfl) dL_law_3265 (fun r_5 v_5 f_5 g_5 h => ?_)
      refine lq_iload C 1 rfl dL_law_3268 ?_
      obtain ⟨hc_3270, h⟩ := h
      refine lq_icmp_eq C 3275 (by decide) dL_law_3270 (fun _ => ?_) (fun c_ => absurd hc_3270 c_)
      refine lq_iload C 1 rfl dL_law_3275 ?_
      refine lq_if_ne C 3292 (by decide) dL_law_3277 (fun c_ => ?_) (fun c_ => ?_)
      · have h := h.1 c_
        refine lq_goto C 3491 (by decide) dL_law_3292 ?_
        exact lq_sub [2, 3, 4, 5, 6] rfl (lz_tail C hR x4 (cd + mc2) (dd + ms3) S_1 v_5 f_5 g_5 h)
      · have h := h.2 c_
        refine lq_aload_n C (i := 3) rfl 3 rfl dL_law_3280 ?_
        refine lq_iconst C (x := nI 0) rfl dL_law_3281 ?_
        obtain ⟨hc_3282, h⟩ := h
        refine lq_laloadR C hc_3282 dL_law_3282 ?_
        refine lq_iload C 0 rfl dL_law_3283 ?_
        refine lq_i2l C dL_law_3285 ?_
        refine lq_lcmp C dL_law_3286 ?_
        obtain ⟨hc_3287, h⟩ := h
        refine lq_if_eqC C 3292 (by decide) dL_law_3287 (fun _ => ?_) (fun c_ => absurd hc_3287 c_)
        refine lq_goto C 3491 (by decide) dL_law_3292 ?_
        exact lq_sub [2, 3, 4, 5, 6] rfl (lz_tail C hR x4 (cd + mc2) (dd + ms3) S_1 v_5 f_5 g_5 h)
    · have h := h.2 c_
      refine lq_iconst C (x := nI 1) rfl dL_law_3248 ?_
      refine lq_goto C 3253 (by decide) dL_law_3249 ?_
      refine lq_aload_n C (i := 0) rfl 5 rfl dL_law_3253 ?_
      refine lq_iload C 1 rfl dL_law_3254 ?_
      refine lq_iconst C (x := nI 4) rfl dL_law_3256 ?_
      refine lq_iadd C dL_law_3257 ?_
      obtain ⟨hc_3258, h⟩ := h
      refine lq_sldR C hL hc_3258 dL_law_3258 ?_
      obtain ⟨hc_3259, h⟩ := h
      refine lq_callMW C (s_sortedAt l ((xs ((x4 + ((nI 1)))).toNatClampNeg)) ((xs ((x4 + ((nI 2)))).toNatClampNeg)) ((nI 1)) ((xs ((x4 + ((nI 4)))).toNatClampNeg)) v f g h) lM_374 rfl rfl ⟨by decide, by decide⟩ hc_3259 rfl (Nat.le_of_ble_eq_true rfl) dL_law_3259 (fun r_6 v_6 f_6 g_6 h => ?_)
      refine lq_istore C (lv' := [(6, .int r_6), (5, .int r_1), (4, .int x4), (3, .ref out), (2, .ref (a 0)), (1, .ref x), (0, .ref b)]) (by decide) rfl dL_law_3262 ?_
      refine lq_aload_n C (i := 2) rfl 4 rfl dL_law_3264 ?_
      obtain ⟨hc_3265, h⟩ := h
      refine lq_callMW C (s_thrown l  v_6 f_6 g_6 h) lM_192 rfl rfl ⟨by decide, by decide⟩ hc_3265 rfl (Nat.le_of_ble_eq_true rfl) dL_law_3265 (fun r_7 v_7 f_7 g_7 h => ?_)
      refine lq_iload C 1 rfl dL_law_3268 ?_
      obtain ⟨hc_3270, h⟩ := h
      refine lq_icmp_eq C 3275 (by decide) dL_law_3270 (fun _ => ?_) (fun c_ => absurd hc_3270 c_)
      refine lq_iload C 1 rfl dL_law_3275 ?_
      refine lq_if_ne C 3292 (by decide) dL_law_3277 (fun c_ => ?_) (fun c_ => ?_)
      · have h := h.1 c_
        refine lq_goto C 3491 (by decide) dL_law_3292 ?_
        exact lq_sub [2, 3, 4, 5, 6] rfl (lz_tail C hR x4 (cd + mc2) (dd + ms3) S_1 v_7 f_7 g_7 h)
      · have h := h.2 c_
        refine lq_aload_n C (i := 3) rfl 3 rfl dL_law_3280 ?_
        refine lq_iconst C (x := nI 0) rfl dL_law_3281 ?_
        obtain ⟨hc_3282, h⟩ := h
        refine lq_laloadR C hc_3282 dL_law_3282 ?_
        refine lq_iload C 0 rfl dL_law_3283 ?_
        refine lq_i2l C dL_law_3285 ?_
        refine lq_lcmp C dL_law_3286 ?_
        obtain ⟨hc_3287, h⟩ := h
        refine lq_if_eqC C 3292 (by decide) dL_law_3287 (fun _ => ?_) (fun c_ => absurd hc_3287 c_)
        refine lq_goto C 3491 (by decide) dL_law_3292 ?_
        exact lq_sub [2, 3, 4, 5, 6] rfl (lz_tail C hR x4 (cd + mc2) (dd + ms3) S_1 v_7 f_7 g_7 h)
  · have h := h.2 c_
    refine lq_iconst C (x := nI 1) rfl dL_law_3209 ?_
    refine lq_goto C 3214 (by decide) dL_law_3210 ?_
    refine lq_aload_n C (i := 0) rfl 4 rfl dL_law_3214 ?_
    refine lq_iload C 0 rfl dL_law_3215 ?_
    refine lq_iconst C (x := nI 4) rfl dL_law_3217 ?_
    refine lq_iadd C dL_law_3218 ?_
    obtain ⟨hc_3219, h⟩ := h
    refine lq_sldR C hL hc_3219 dL_law_3219 ?_
    refine lq_aload_n C (i := 3) rfl 1 rfl dL_law_3220 ?_
    obtain ⟨mc9, ms10, hm_, h⟩ := h
    refine lq_callW C (tw_L_sortedAt l hlt mc9 ms10 x ((xs ((x4 + ((nI 1)))).toNatClampNeg)) ((xs ((x4 + ((nI 2)))).toNatClampNeg)) ((nI 1)) ((xs ((x4 + ((nI 4)))).toNatClampNeg)) out S dp h) lH_371 rfl rfl ⟨by decide, by decide⟩ hm_ rfl (Nat.le_of_ble_eq_true rfl) dL_law_3221 (fun r_8 S_8 h => ?_)
    refine lq_istore C (lv' := [(5, .int r_8), (4, .int x4), (3, .ref out), (2, .ref (a 0)), (1, .ref x), (0, .ref b)]) (by decide) rfl dL_law_3224 ?_
    refine lq_aload_n C (i := 2) rfl 3 rfl dL_law_3226 ?_
    refine lq_aload_n C (i := 0) rfl 5 rfl dL_law_3227 ?_
    refine lq_iload C 1 rfl dL_law_3228 ?_
    refine lq_iconst C (x := nI 1) rfl dL_law_3230 ?_
    refine lq_iadd C dL_law_3231 ?_
    obtain ⟨hc_3232, h⟩ := h
    refine lq_sldR C hL hc_3232 dL_law_3232 ?_
    refine lq_aload_n C (i := 0) rfl 5 rfl dL_law_3233 ?_
    refine lq_iload C 1 rfl dL_law_3234 ?_
    refine lq_iconst C (x := nI 2) rfl dL_law_3236 ?_
    refine lq_iadd C dL_law_3237 ?_
    obtain ⟨hc_3238, h⟩ := h
    refine lq_sldR C hL hc_3238 dL_law_3238 ?_
    refine lq_aload_n C (i := 0) rfl 5 rfl dL_law_3239 ?_
    refine lq_iload C 1 rfl dL_law_3240 ?_
    refine lq_iconst C (x := nI 3) rfl dL_law_3242 ?_
    refine lq_iadd C dL_law_3243 ?_
    obtain ⟨hc_3244, h⟩ := h
    refine lq_sldR C hL hc_3244 dL_law_3244 ?_
    refine lq_if_eq C 3252 (by decide) dL_law_3245 (fun c_ => ?_) (fun c_ => ?_)
    · have h := h.1 c_
      refine lq_iconst C (x := nI 0) rfl dL_law_3252 ?_
      refine lq_aload_n C (i := 0) rfl 5 rfl dL_law_3253 ?_
      refine lq_iload C 1 rfl dL_law_3254 ?_
      refine lq_iconst C (x := nI 4) rfl dL_law_3256 ?_
      refine lq_iadd C dL_law_3257 ?_
      obtain ⟨hc_3258, h⟩ := h
      refine lq_sldR C hL hc_3258 dL_law_3258 ?_
      obtain ⟨hc_3259, h⟩ := h
      refine lq_callMW C (s_sortedAt l ((xs ((x4 + ((nI 1)))).toNatClampNeg)) ((xs ((x4 + ((nI 2)))).toNatClampNeg)) ((nI 0)) ((xs ((x4 + ((nI 4)))).toNatClampNeg)) v f g h) lM_374 rfl rfl ⟨by decide, by decide⟩ hc_3259 rfl (Nat.le_of_ble_eq_true rfl) dL_law_3259 (fun r_11 v_11 f_11 g_11 h => ?_)
      refine lq_istore C (lv' := [(6, .int r_11), (5, .int r_8), (4, .int x4), (3, .ref out), (2, .ref (a 0)), (1, .ref x), (0, .ref b)]) (by decide) rfl dL_law_3262 ?_
      refine lq_aload_n C (i := 2) rfl 4 rfl dL_law_3264 ?_
      obtain ⟨hc_3265, h⟩ := h
      refine lq_callMW C (s_thrown l  v_11 f_11 g_11 h) lM_192 rfl rfl ⟨by decide, by decide⟩ hc_3265 rfl (Nat.le_of_ble_eq_true rfl) dL_law_3265 (fun r_12 v_12 f_12 g_12 h => ?_)
      refine lq_iload C 1 rfl dL_law_3268 ?_
      obtain ⟨hc_3270, h⟩ := h
      refine lq_icmp_eq C 3275 (by decide) dL_law_3270 (fun _ => ?_) (fun c_ => absurd hc_3270 c_)
      refine lq_iload C 1 rfl dL_law_3275 ?_
      refine lq_if_ne C 3292 (by decide) dL_law_3277 (fun c_ => ?_) (fun c_ => ?_)
      · have h := h.1 c_
        refine lq_goto C 3491 (by decide) dL_law_3292 ?_
        exact lq_sub [2, 3, 4, 5, 6] rfl (lz_tail C hR x4 (cd + mc9) (dd + ms10) S_8 v_12 f_12 g_12 h)
      · have h := h.2 c_
        refine lq_aload_n C (i := 3) rfl 3 rfl dL_law_3280 ?_
        refine lq_iconst C (x := nI 0) rfl dL_law_3281 ?_
        obtain ⟨hc_3282, h⟩ := h
        refine lq_laloadR C hc_3282 dL_law_3282 ?_
        refine lq_iload C 0 rfl dL_law_3283 ?_
        refine lq_i2l C dL_law_3285 ?_
        refine lq_lcmp C dL_law_3286 ?_
        obtain ⟨hc_3287, h⟩ := h
        refine lq_if_eqC C 3292 (by decide) dL_law_3287 (fun _ => ?_) (fun c_ => absurd hc_3287 c_)
        refine lq_goto C 3491 (by decide) dL_law_3292 ?_
        exact lq_sub [2, 3, 4, 5, 6] rfl (lz_tail C hR x4 (cd + mc9) (dd + ms10) S_8 v_12 f_12 g_12 h)
    · have h := h.2 c_
      refine lq_iconst C (x := nI 1) rfl dL_law_3248 ?_
      refine lq_goto C 3253 (by decide) dL_law_3249 ?_
      refine lq_aload_n C (i := 0) rfl 5 rfl dL_law_3253 ?_
      refine lq_iload C 1 rfl dL_law_3254 ?_
      refine lq_iconst C (x := nI 4) rfl dL_law_3256 ?_
      refine lq_iadd C dL_law_3257 ?_
      obtain ⟨hc_3258, h⟩ := h
      refine lq_sldR C hL hc_3258 dL_law_3258 ?_
      obtain ⟨hc_3259, h⟩ := h
      refine lq_callMW C (s_sortedAt l ((xs ((x4 + ((nI 1)))).toNatClampNeg)) ((xs ((x4 + ((nI 2)))).toNatClampNeg)) ((nI 1)) ((xs ((x4 + ((nI 4)))).toNatClampNeg)) v f g h) lM_374 rfl rfl ⟨by decide, by decide⟩ hc_3259 rfl (Nat.le_of_ble_eq_true rfl) dL_law_3259 (fun r_13 v_13 f_13 g_13 h => ?_)
      refine lq_istore C (lv' := [(6, .int r_13), (5, .int r_8), (4, .int x4), (3, .ref out), (2, .ref (a 0)), (1, .ref x), (0, .ref b)]) (by decide) rfl dL_law_3262 ?_
      refine lq_aload_n C (i := 2) rfl 4 rfl dL_law_3264 ?_
      obtain ⟨hc_3265, h⟩ := h
      refine lq_callMW C (s_thrown l  v_13 f_13 g_13 h) lM_192 rfl rfl ⟨by decide, by decide⟩ hc_3265 rfl (Nat.le_of_ble_eq_true rfl) dL_law_3265 (fun r_14 v_14 f_14 g_14 h => ?_)
      refine lq_iload C 1 rfl dL_law_3268 ?_
      obtain ⟨hc_3270, h⟩ := h
      refine lq_icmp_eq C 3275 (by decide) dL_law_3270 (fun _ => ?_) (fun c_ => absurd hc_3270 c_)
      refine lq_iload C 1 rfl dL_law_3275 ?_
      refine lq_if_ne C 3292 (by decide) dL_law_3277 (fun c_ => ?_) (fun c_ => ?_)
      · have h := h.1 c_
        refine lq_goto C 3491 (by decide) dL_law_3292 ?_
        exact lq_sub [2, 3, 4, 5, 6] rfl (lz_tail C hR x4 (cd + mc9) (dd + ms10) S_8 v_14 f_14 g_14 h)
      · have h := h.2 c_
        refine lq_aload_n C (i := 3) rfl 3 rfl dL_law_3280 ?_
        refine lq_iconst C (x := nI 0) rfl dL_law_3281 ?_
        obtain ⟨hc_3282, h⟩ := h
        refine lq_laloadR C hc_3282 dL_law_3282 ?_
        refine lq_iload C 0 rfl dL_law_3283 ?_
        refine lq_i2l C dL_law_3285 ?_
        refine lq_lcmp C dL_law_3286 ?_
        obtain ⟨hc_3287, h⟩ := h
        refine lq_if_eqC C 3292 (by decide) dL_law_3287 (fun _ => ?_) (fun c_ => absurd hc_3287 c_)
        refine lq_goto C 3491 (by decide) dL_law_3292 ?_
        exact lq_sub [2, 3, 4, 5, 6] rfl (lz_tail C hR x4 (cd + mc9) (dd + ms10) S_8 v_14 f_14 g_14 h)
set_option maxHeartbeats 1000000 in
set_option maxRecDepth 20000 in
theorem lz_c55 (C : lC p l s m meth c b L xs D Y tp dp) (hL : L < 2 ^ 31) {R : Int32 → Nat → Nat → cS → (Nat → Int32) → (Nat → Nat → Int32) → (Nat → Nat → Int64) → Prop} (hR : ∀ (x4 : Int32) (cd dd : Nat) (S : cS) (v : Nat → Int32) (f : Nat → Nat → Int32) (g : Nat → Nat → Int64), R x4 cd dd S v f g → lG p l e s m below meth c b D Y cd dd 23 [(4, .int x4), (3, .ref out), (2, .ref (a 0)), (1, .ref x), (0, .ref b)] [] S a v f g) (x4 : Int32) (cd dd : Nat) (S : cS) (v : Nat → Int32) (f : Nat → Nat → Int32) (g : Nat → Nat → Int64) (h : lw_c55 R xs L dp x out x4 cd dd S v f g) : lG p l e s m below meth c b D Y cd dd 3295 [(4, .int x4), (3, .ref out), (2, .ref (a 0)), (1, .ref x), (0, .ref b)] [] S a v f g := by
  have hlt := C.2.2.2.2.2.2.2.2.2.2.1
  unfold lw_c55 at h
  refine lq_aload_n C (i := 1) rfl 3 rfl dL_law_3295 ?_
  refine lq_aload_n C (i := 0) rfl 4 rfl dL_law_3296 ?_
  refine lq_iload C 0 rfl dL_law_3297 ?_
  refine lq_iconst C (x := nI 1) rfl dL_law_3299 ?_
  refine lq_iadd C dL_law_3300 ?_
  obtain ⟨hc_3301, h⟩ := h
  refine lq_sldR C hL hc_3301 dL_law_3301 ?_
  refine lq_aload_n C (i := 0) rfl 4 rfl dL_law_3302 ?_
  refine lq_iload C 0 rfl dL_law_3303 ?_
  refine lq_iconst C (x := nI 2) rfl dL_law_3305 ?_
  refine lq_iadd C dL_law_3306 ?_
  obtain ⟨hc_3307, h⟩ := h
  refine lq_sldR C hL hc_3307 dL_law_3307 ?_
  refine lq_aload_n C (i := 0) rfl 4 rfl dL_law_3308 ?_
  refine lq_iload C 0 rfl dL_law_3309 ?_
  refine lq_iconst C (x := nI 3) rfl dL_law_3311 ?_
  refine lq_iadd C dL_law_3312 ?_
  obtain ⟨hc_3313, h⟩ := h
  refine lq_sldR C hL hc_3313 dL_law_3313 ?_
  refine lq_aload_n C (i := 0) rfl 4 rfl dL_law_3314 ?_
  refine lq_iload C 0 rfl dL_law_3315 ?_
  refine lq_iconst C (x := nI 4) rfl dL_law_3317 ?_
  refine lq_iadd C dL_law_3318 ?_
  obtain ⟨hc_3319, h⟩ := h
  refine lq_sldR C hL hc_3319 dL_law_3319 ?_
  refine lq_aload_n C (i := 3) rfl 1 rfl dL_law_3320 ?_
  obtain ⟨mc2, ms3, hm_, h⟩ := h
  refine lq_callW C (tw_L_passages l hlt mc2 ms3 x ((xs ((x4 + ((nI 1)))).toNatClampNeg)) ((xs ((x4 + ((nI 2)))).toNatClampNeg)) ((xs ((x4 + ((nI 3)))).toNatClampNeg)) ((xs ((x4 + ((nI 4)))).toNatClampNeg)) out S dp h) lH_375 rfl rfl ⟨by decide, by decide⟩ hm_ rfl (Nat.le_of_ble_eq_true rfl) dL_law_3321 (fun r_1 S_1 h => ?_)
  refine lq_istore C (lv' := [(5, .int r_1), (4, .int x4), (3, .ref out), (2, .ref (a 0)), (1, .ref x), (0, .ref b)]) (by decide) rfl dL_law_3324 ?_
  refine lq_aload_n C (i := 2) rfl 3 rfl dL_law_3326 ?_
  refine lq_aload_n C (i := 0) rfl 5 rfl dL_law_3327 ?_
  refine lq_iload C 1 rfl dL_law_3328 ?_
  refine lq_iconst C (x := nI 1) rfl dL_law_3330 ?_
  refine lq_iadd C dL_law_3331 ?_
  obtain ⟨hc_3332, h⟩ := h
  refine lq_sldR C hL hc_3332 dL_law_3332 ?_
  refine lq_aload_n C (i := 0) rfl 5 rfl dL_law_3333 ?_
  refine lq_iload C 1 rfl dL_law_3334 ?_
  refine lq_iconst C (x := nI 2) rfl dL_law_3336 ?_
  refine lq_iadd C dL_law_3337 ?_
  obtain ⟨hc_3338, h⟩ := h
  refine lq_sldR C hL hc_3338 dL_law_3338 ?_
  refine lq_aload_n C (i := 0) rfl 5 rfl dL_law_3339 ?_
  refine lq_iload C 1 rfl dL_law_3340 ?_
  refine lq_iconst C (x := nI 3) rfl dL_law_3342 ?_
  refine lq_iadd C dL_law_3343 ?_
  obtain ⟨hc_3344, h⟩ := h
  refine lq_sldR C hL hc_3344 dL_law_3344 ?_
  refine lq_aload_n C (i := 0) rfl 5 rfl dL_law_3345 ?_
  refine lq_iload C 1 rfl dL_law_3346 ?_
  refine lq_iconst C (x := nI 4) rfl dL_law_3348 ?_
  refine lq_iadd C dL_law_3349 ?_
  obtain ⟨hc_3350, h⟩ := h
  refine lq_sldR C hL hc_3350 dL_law_3350 ?_
  obtain ⟨hc_3351, h⟩ := h
  refine lq_callMW C (s_passages l ((xs ((x4 + ((nI 1)))).toNatClampNeg)) ((xs ((x4 + ((nI 2)))).toNatClampNeg)) ((xs ((x4 + ((nI 3)))).toNatClampNeg)) ((xs ((x4 + ((nI 4)))).toNatClampNeg)) v f g h) lM_377 rfl rfl ⟨by decide, by decide⟩ hc_3351 rfl (Nat.le_of_ble_eq_true rfl) dL_law_3351 (fun r_4 v_4 f_4 g_4 h => ?_)
  refine lq_istore C (lv' := [(6, .int r_4), (5, .int r_1), (4, .int x4), (3, .ref out), (2, .ref (a 0)), (1, .ref x), (0, .ref b)]) (by decide) rfl dL_law_3354 ?_
  refine lq_aload_n C (i := 2) rfl 4 rfl dL_law_3356 ?_
  obtain ⟨hc_3357, h⟩ := h
  refine lq_callMW C (s_thrown l  v_4 f_4 g_4 h) lM_192 rfl rfl ⟨by decide, by decide⟩ hc_3357 rfl (Nat.le_of_ble_eq_true rfl) dL_law_3357 (fun r_5 v_5 f_5 g_5 h => ?_)
  refine lq_iload C 1 rfl dL_law_3360 ?_
  obtain ⟨hc_3362, h⟩ := h
  refine lq_icmp_eq C 3367 (by decide) dL_law_3362 (fun _ => ?_) (fun c_ => absurd hc_3362 c_)
  refine lq_iload C 1 rfl dL_law_3367 ?_
  refine lq_if_ne C 3384 (by decide) dL_law_3369 (fun c_ => ?_) (fun c_ => ?_)
  · have h := h.1 c_
    refine lq_goto C 3491 (by decide) dL_law_3384 ?_
    exact lq_sub [2, 3, 4, 5, 6] rfl (lz_tail C hR x4 (cd + mc2) (dd + ms3) S_1 v_5 f_5 g_5 h)
  · have h := h.2 c_
    refine lq_aload_n C (i := 3) rfl 3 rfl dL_law_3372 ?_
    refine lq_iconst C (x := nI 0) rfl dL_law_3373 ?_
    obtain ⟨hc_3374, h⟩ := h
    refine lq_laloadR C hc_3374 dL_law_3374 ?_
    refine lq_iload C 0 rfl dL_law_3375 ?_
    refine lq_i2l C dL_law_3377 ?_
    refine lq_lcmp C dL_law_3378 ?_
    obtain ⟨hc_3379, h⟩ := h
    refine lq_if_eqC C 3384 (by decide) dL_law_3379 (fun _ => ?_) (fun c_ => absurd hc_3379 c_)
    refine lq_goto C 3491 (by decide) dL_law_3384 ?_
    exact lq_sub [2, 3, 4, 5, 6] rfl (lz_tail C hR x4 (cd + mc2) (dd + ms3) S_1 v_5 f_5 g_5 h)
set_option maxHeartbeats 1000000 in
set_option maxRecDepth 20000 in
theorem lz_c56 (C : lC p l s m meth c b L xs D Y tp dp) (hL : L < 2 ^ 31) {R : Int32 → Nat → Nat → cS → (Nat → Int32) → (Nat → Nat → Int32) → (Nat → Nat → Int64) → Prop} (hR : ∀ (x4 : Int32) (cd dd : Nat) (S : cS) (v : Nat → Int32) (f : Nat → Nat → Int32) (g : Nat → Nat → Int64), R x4 cd dd S v f g → lG p l e s m below meth c b D Y cd dd 23 [(4, .int x4), (3, .ref out), (2, .ref (a 0)), (1, .ref x), (0, .ref b)] [] S a v f g) (x4 : Int32) (cd dd : Nat) (S : cS) (v : Nat → Int32) (f : Nat → Nat → Int32) (g : Nat → Nat → Int64) (h : lw_c56 R xs L dp x out x4 cd dd S v f g) : lG p l e s m below meth c b D Y cd dd 3387 [(4, .int x4), (3, .ref out), (2, .ref (a 0)), (1, .ref x), (0, .ref b)] [] S a v f g := by
  have hlt := C.2.2.2.2.2.2.2.2.2.2.1
  unfold lw_c56 at h
  refine lq_aload_n C (i := 1) rfl 3 rfl dL_law_3387 ?_
  refine lq_aload_n C (i := 0) rfl 4 rfl dL_law_3388 ?_
  refine lq_iload C 0 rfl dL_law_3389 ?_
  refine lq_iconst C (x := nI 1) rfl dL_law_3391 ?_
  refine lq_iadd C dL_law_3392 ?_
  obtain ⟨hc_3393, h⟩ := h
  refine lq_sldR C hL hc_3393 dL_law_3393 ?_
  refine lq_aload_n C (i := 0) rfl 4 rfl dL_law_3394 ?_
  refine lq_iload C 0 rfl dL_law_3395 ?_
  refine lq_iconst C (x := nI 2) rfl dL_law_3397 ?_
  refine lq_iadd C dL_law_3398 ?_
  obtain ⟨hc_3399, h⟩ := h
  refine lq_sldR C hL hc_3399 dL_law_3399 ?_
  refine lq_aload_n C (i := 0) rfl 4 rfl dL_law_3400 ?_
  refine lq_iload C 0 rfl dL_law_3401 ?_
  refine lq_iconst C (x := nI 3) rfl dL_law_3403 ?_
  refine lq_iadd C dL_law_3404 ?_
  obtain ⟨hc_3405, h⟩ := h
  refine lq_sldR C hL hc_3405 dL_law_3405 ?_
  refine lq_aload_n C (i := 0) rfl 4 rfl dL_law_3406 ?_
  refine lq_iload C 0 rfl dL_law_3407 ?_
  refine lq_iconst C (x := nI 4) rfl dL_law_3409 ?_
  refine lq_iadd C dL_law_3410 ?_
  obtain ⟨hc_3411, h⟩ := h
  refine lq_sldR C hL hc_3411 dL_law_3411 ?_
  refine lq_aload_n C (i := 0) rfl 4 rfl dL_law_3412 ?_
  refine lq_iload C 0 rfl dL_law_3413 ?_
  refine lq_iconst C (x := nI 5) rfl dL_law_3415 ?_
  refine lq_iadd C dL_law_3416 ?_
  obtain ⟨hc_3417, h⟩ := h
  refine lq_sldR C hL hc_3417 dL_law_3417 ?_
  refine lq_aload_n C (i := 3) rfl 1 rfl dL_law_3418 ?_
  obtain ⟨mc2, ms3, hm_, h⟩ := h
  refine lq_callW C (tw_L_passageAt l hlt mc2 ms3 x ((xs ((x4 + ((nI 1)))).toNatClampNeg)) ((xs ((x4 + ((nI 2)))).toNatClampNeg)) ((xs ((x4 + ((nI 3)))).toNatClampNeg)) ((xs ((x4 + ((nI 4)))).toNatClampNeg)) ((xs ((x4 + ((nI 5)))).toNatClampNeg)) out S dp h) lH_378 rfl rfl ⟨by decide, by decide⟩ hm_ rfl (Nat.le_of_ble_eq_true rfl) dL_law_3419 (fun r_1 S_1 h => ?_)
  refine lq_istore C (lv' := [(5, .int r_1), (4, .int x4), (3, .ref out), (2, .ref (a 0)), (1, .ref x), (0, .ref b)]) (by decide) rfl dL_law_3422 ?_
  refine lq_aload_n C (i := 2) rfl 3 rfl dL_law_3424 ?_
  refine lq_aload_n C (i := 0) rfl 5 rfl dL_law_3425 ?_
  refine lq_iload C 1 rfl dL_law_3426 ?_
  refine lq_iconst C (x := nI 1) rfl dL_law_3428 ?_
  refine lq_iadd C dL_law_3429 ?_
  obtain ⟨hc_3430, h⟩ := h
  refine lq_sldR C hL hc_3430 dL_law_3430 ?_
  refine lq_aload_n C (i := 0) rfl 5 rfl dL_law_3431 ?_
  refine lq_iload C 1 rfl dL_law_3432 ?_
  refine lq_iconst C (x := nI 2) rfl dL_law_3434 ?_
  refine lq_iadd C dL_law_3435 ?_
  obtain ⟨hc_3436, h⟩ := h
  refine lq_sldR C hL hc_3436 dL_law_3436 ?_
  refine lq_aload_n C (i := 0) rfl 5 rfl dL_law_3437 ?_
  refine lq_iload C 1 rfl dL_law_3438 ?_
  refine lq_iconst C (x := nI 3) rfl dL_law_3440 ?_
  refine lq_iadd C dL_law_3441 ?_
  obtain ⟨hc_3442, h⟩ := h
  refine lq_sldR C hL hc_3442 dL_law_3442 ?_
  refine lq_aload_n C (i := 0) rfl 5 rfl dL_law_3443 ?_
  refine lq_iload C 1 rfl dL_law_3444 ?_
  refine lq_iconst C (x := nI 4) rfl dL_law_3446 ?_
  refine lq_iadd C dL_law_3447 ?_
  obtain ⟨hc_3448, h⟩ := h
  refine lq_sldR C hL hc_3448 dL_law_3448 ?_
  refine lq_aload_n C (i := 0) rfl 5 rfl dL_law_3449 ?_
  refine lq_iload C 1 rfl dL_law_3450 ?_
  refine lq_iconst C (x := nI 5) rfl dL_law_3452 ?_
  refine lq_iadd C dL_law_3453 ?_
  obtain ⟨hc_3454, h⟩ := h
  refine lq_sldR C hL hc_3454 dL_law_3454 ?_
  obtain ⟨hc_3455, h⟩ := h
  refine lq_callMW C (s_passageAt l ((xs ((x4 + ((nI 1)))).toNatClampNeg)) ((xs ((x4 + ((nI 2)))).toNatClampNeg)) ((xs ((x4 + ((nI 3)))).toNatClampNeg)) ((xs ((x4 + ((nI 4)))).toNatClampNeg)) ((xs ((x4 + ((nI 5)))).toNatClampNeg)) v f g h) lM_381 rfl rfl ⟨by decide, by decide⟩ hc_3455 rfl (Nat.le_of_ble_eq_true rfl) dL_law_3455 (fun r_4 v_4 f_4 g_4 h => ?_)
  refine lq_istore C (lv' := [(6, .int r_4), (5, .int r_1), (4, .int x4), (3, .ref out), (2, .ref (a 0)), (1, .ref x), (0, .ref b)]) (by decide) rfl dL_law_3458 ?_
  refine lq_aload_n C (i := 2) rfl 4 rfl dL_law_3460 ?_
  obtain ⟨hc_3461, h⟩ := h
  refine lq_callMW C (s_thrown l  v_4 f_4 g_4 h) lM_192 rfl rfl ⟨by decide, by decide⟩ hc_3461 rfl (Nat.le_of_ble_eq_true rfl) dL_law_3461 (fun r_5 v_5 f_5 g_5 h => ?_)
  refine lq_iload C 1 rfl dL_law_3464 ?_
  obtain ⟨hc_3466, h⟩ := h
  refine lq_icmp_eq C 3471 (by decide) dL_law_3466 (fun _ => ?_) (fun c_ => absurd hc_3466 c_)
  refine lq_iload C 1 rfl dL_law_3471 ?_
  refine lq_if_ne C 3488 (by decide) dL_law_3473 (fun c_ => ?_) (fun c_ => ?_)
  · have h := h.1 c_
    refine lq_goto C 3491 (by decide) dL_law_3488 ?_
    exact lq_sub [2, 3, 4, 5, 6] rfl (lz_tail C hR x4 (cd + mc2) (dd + ms3) S_1 v_5 f_5 g_5 h)
  · have h := h.2 c_
    refine lq_aload_n C (i := 3) rfl 3 rfl dL_law_3476 ?_
    refine lq_iconst C (x := nI 0) rfl dL_law_3477 ?_
    obtain ⟨hc_3478, h⟩ := h
    refine lq_laloadR C hc_3478 dL_law_3478 ?_
    refine lq_iload C 0 rfl dL_law_3479 ?_
    refine lq_i2l C dL_law_3481 ?_
    refine lq_lcmp C dL_law_3482 ?_
    obtain ⟨hc_3483, h⟩ := h
    refine lq_if_eqC C 3488 (by decide) dL_law_3483 (fun _ => ?_) (fun c_ => absurd hc_3483 c_)
    refine lq_goto C 3491 (by decide) dL_law_3488 ?_
    exact lq_sub [2, 3, 4, 5, 6] rfl (lz_tail C hR x4 (cd + mc2) (dd + ms3) S_1 v_5 f_5 g_5 h)
set_option maxHeartbeats 4000000 in
theorem lz_23 (C : lC p l s m meth c b L xs D Y tp dp) (hL : L < 2 ^ 31) {R : Int32 → Nat → Nat → cS → (Nat → Int32) → (Nat → Nat → Int32) → (Nat → Nat → Int64) → Prop} (hR : ∀ (x4 : Int32) (cd dd : Nat) (S : cS) (v : Nat → Int32) (f : Nat → Nat → Int32) (g : Nat → Nat → Int64), R x4 cd dd S v f g → lG p l e s m below meth c b D Y cd dd 23 [(4, .int x4), (3, .ref out), (2, .ref (a 0)), (1, .ref x), (0, .ref b)] [] S a v f g) (x4 : Int32) (cd dd : Nat) (S : cS) (v : Nat → Int32) (f : Nat → Nat → Int32) (g : Nat → Nat → Int64) (h : lw_23 R xs L dp x out x4 cd dd S v f g) : lG p l e s m below meth c b D Y cd dd 23 [(4, .int x4), (3, .ref out), (2, .ref (a 0)), (1, .ref x), (0, .ref b)] [] S a v f g := by
  refine lq_iload C 0 rfl dL_law_23 ?_
  refine lq_aload_n C (i := 0) rfl 4 rfl dL_law_25 ?_
  refine lq_slen C dL_law_26 ?_
  refine lq_bipush C (x := nI 6) rfl dL_law_27 ?_
  refine lq_isub C dL_law_29 ?_
  refine lq_icmp_gt C 3497 (by decide) dL_law_30 (fun c_ => ?_) (fun c_ => ?_)
  · obtain ⟨h1, h2⟩ := h.1 c_
    refine lq_iconst C (x := nI 1) rfl dL_law_3497 ?_
    exact lq_end C h1 h2 dL_law_3498
  · obtain ⟨hi, h⟩ := h.2 c_
    refine lq_aload_n C (i := 0) rfl 4 rfl dL_law_33 ?_
    refine lq_iload C 0 rfl dL_law_34 ?_
    refine lq_sldR C hL hi dL_law_36 ?_
    refine lq_bipush C (x := nI 63) rfl dL_law_37 ?_
    refine lq_iand C dL_law_39 ?_
    obtain ⟨j, hj, ej⟩ := pk_andE (xs x4.toNatClampNeg) (m := nI 63) 6 (by decide)
    obtain ⟨t, et⟩ : ∃ t : Int32, t = xs x4.toNatClampNeg &&& nI 63 := ⟨_, rfl⟩
    have h := h t et
    rw [← et] at ej ⊢
    subst ej
    obtain ⟨k0, k1, k2, k3, k4, k5, k6, k7, k8, k9, k10, k11, k12, k13, k14, k15, k16, k17, k18, k19, k20, k21, k22, k23, k24, k25, k26, k27, k28, k29, k30, k31, k32, k33, k34, k35, k36, k37, k38, k39, k40, k41, k42, k43, k44, k45, k46, k47, k48, k49, k50, k51, k52, k53, k54, k55, k56, kt⟩ := h
    rcases (show j = 0 ∨ j = 1 ∨ j = 2 ∨ j = 3 ∨ j = 4 ∨ j = 5 ∨ j = 6 ∨ j = 7 ∨ j = 8 ∨ j = 9 ∨ j = 10 ∨ j = 11 ∨ j = 12 ∨ j = 13 ∨ j = 14 ∨ j = 15 ∨ j = 16 ∨ j = 17 ∨ j = 18 ∨ j = 19 ∨ j = 20 ∨ j = 21 ∨ j = 22 ∨ j = 23 ∨ j = 24 ∨ j = 25 ∨ j = 26 ∨ j = 27 ∨ j = 28 ∨ j = 29 ∨ j = 30 ∨ j = 31 ∨ j = 32 ∨ j = 33 ∨ j = 34 ∨ j = 35 ∨ j = 36 ∨ j = 37 ∨ j = 38 ∨ j = 39 ∨ j = 40 ∨ j = 41 ∨ j = 42 ∨ j = 43 ∨ j = 44 ∨ j = 45 ∨ j = 46 ∨ j = 47 ∨ j = 48 ∨ j = 49 ∨ j = 50 ∨ j = 51 ∨ j = 52 ∨ j = 53 ∨ j = 54 ∨ j = 55 ∨ j = 56 ∨ 57 ≤ j by omega) with rfl | rfl | rfl | rfl | rfl | rfl | rfl | rfl | rfl | rfl | rfl | rfl | rfl | rfl | rfl | rfl | rfl | rfl | rfl | rfl | rfl | rfl | rfl | rfl | rfl | rfl | rfl | rfl | rfl | rfl | rfl | rfl | rfl | rfl | rfl | rfl | rfl | rfl | rfl | rfl | rfl | rfl | rfl | rfl | rfl | rfl | rfl | rfl | rfl | rfl | rfl | rfl | rfl | rfl | rfl | rfl | rfl | h57
    · exact lq_tabIn C 284 dL_law_40 (by decide) (by decide) rfl (by decide) (lz_c0 C hL hR x4 cd dd S v f g (k0 rfl))
    · exact lq_tabIn C 342 dL_law_40 (by decide) (by decide) rfl (by decide) (lz_c1 C hL hR x4 cd dd S v f g (k1 rfl))
    · exact lq_tabIn C 355 dL_law_40 (by decide) (by decide) rfl (by decide) (lz_c2 C hL hR x4 cd dd S v f g (k2 rfl))
    · exact lq_tabIn C 399 dL_law_40 (by decide) (by decide) rfl (by decide) (lz_c3 C hL hR x4 cd dd S v f g (k3 rfl))
    · exact lq_tabIn C 443 dL_law_40 (by decide) (by decide) rfl (by decide) (lz_c4 C hL hR x4 cd dd S v f g (k4 rfl))
    · exact lq_tabIn C 499 dL_law_40 (by decide) (by decide) rfl (by decide) (lz_c5 C hL hR x4 cd dd S v f g (k5 rfl))
    · exact lq_tabIn C 547 dL_law_40 (by decide) (by decide) rfl (by decide) (lz_c6 C hL hR x4 cd dd S v f g (k6 rfl))
    · exact lq_tabIn C 603 dL_law_40 (by decide) (by decide) rfl (by decide) (lz_c7 C hL hR x4 cd dd S v f g (k7 rfl))
    · exact lq_tabIn C 666 dL_law_40 (by decide) (by decide) rfl (by decide) (lz_c8 C hL hR x4 cd dd S v f g (k8 rfl))
    · exact lq_tabIn C 710 dL_law_40 (by decide) (by decide) rfl (by decide) (lz_c9 C hL hR x4 cd dd S v f g (k9 rfl))
    · exact lq_tabIn C 754 dL_law_40 (by decide) (by decide) rfl (by decide) (lz_c10 C hL hR x4 cd dd S v f g (k10 rfl))
    · exact lq_tabIn C 798 dL_law_40 (by decide) (by decide) rfl (by decide) (lz_c11 C hL hR x4 cd dd S v f g (k11 rfl))
    · exact lq_tabIn C 842 dL_law_40 (by decide) (by decide) rfl (by decide) (lz_c12 C hL hR x4 cd dd S v f g (k12 rfl))
    · exact lq_tabIn C 886 dL_law_40 (by decide) (by decide) rfl (by decide) (lz_c13 C hL hR x4 cd dd S v f g (k13 rfl))
    · exact lq_tabIn C 930 dL_law_40 (by decide) (by decide) rfl (by decide) (lz_c14 C hL hR x4 cd dd S v f g (k14 rfl))
    · exact lq_tabIn C 974 dL_law_40 (by decide) (by decide) rfl (by decide) (lz_c15 C hL hR x4 cd dd S v f g (k15 rfl))
    · exact lq_tabIn C 998 dL_law_40 (by decide) (by decide) rfl (by decide) (lz_c16 C hL hR x4 cd dd S v f g (k16 rfl))
    · exact lq_tabIn C 1034 dL_law_40 (by decide) (by decide) rfl (by decide) (lz_c17 C hL hR x4 cd dd S v f g (k17 rfl))
    · exact lq_tabIn C 1078 dL_law_40 (by decide) (by decide) rfl (by decide) (lz_c18 C hL hR x4 cd dd S v f g (k18 rfl))
    · exact lq_tabIn C 1091 dL_law_40 (by decide) (by decide) rfl (by decide) (lz_c19 C hL hR x4 cd dd S v f g (k19 rfl))
    · exact lq_tabIn C 1135 dL_law_40 (by decide) (by decide) rfl (by decide) (lz_c20 C hL hR x4 cd dd S v f g (k20 rfl))
    · exact lq_tabIn C 1148 dL_law_40 (by decide) (by decide) rfl (by decide) (lz_c21 C hL hR x4 cd dd S v f g (k21 rfl))
    · exact lq_tabIn C 1192 dL_law_40 (by decide) (by decide) rfl (by decide) (lz_c22 C hL hR x4 cd dd S v f g (k22 rfl))
    · exact lq_tabIn C 1248 dL_law_40 (by decide) (by decide) rfl (by decide) (lz_c23 C hL hR x4 cd dd S v f g (k23 rfl))
    · exact lq_tabIn C 1304 dL_law_40 (by decide) (by decide) rfl (by decide) (lz_c24 C hL hR x4 cd dd S v f g (k24 rfl))
    · exact lq_tabIn C 1372 dL_law_40 (by decide) (by decide) rfl (by decide) (lz_c25 C hL hR x4 cd dd S v f g (k25 rfl))
    · exact lq_tabIn C 1440 dL_law_40 (by decide) (by decide) rfl (by decide) (lz_c26 C hL hR x4 cd dd S v f g (k26 rfl))
    · exact lq_tabIn C 1520 dL_law_40 (by decide) (by decide) rfl (by decide) (lz_c27 C hL hR x4 cd dd S v f g (k27 rfl))
    · exact lq_tabIn C 1588 dL_law_40 (by decide) (by decide) rfl (by decide) (lz_c28 C hL hR x4 cd dd S v f g (k28 rfl))
    · exact lq_tabIn C 1680 dL_law_40 (by decide) (by decide) rfl (by decide) (lz_c29 C hL hR x4 cd dd S v f g (k29 rfl))
    · exact lq_tabIn C 1760 dL_law_40 (by decide) (by decide) rfl (by decide) (lz_c30 C hL hR x4 cd dd S v f g (k30 rfl))
    · exact lq_tabIn C 1852 dL_law_40 (by decide) (by decide) rfl (by decide) (lz_c31 C hL hR x4 cd dd S v f g (k31 rfl))
    · exact lq_tabIn C 1924 dL_law_40 (by decide) (by decide) rfl (by decide) (lz_c32 C hL hR x4 cd dd S v f g (k32 rfl))
    · exact lq_tabIn C 1980 dL_law_40 (by decide) (by decide) rfl (by decide) (lz_c33 C hL hR x4 cd dd S v f g (k33 rfl))
    · exact lq_tabIn C 2036 dL_law_40 (by decide) (by decide) rfl (by decide) (lz_c34 C hL hR x4 cd dd S v f g (k34 rfl))
    · exact lq_tabIn C 2092 dL_law_40 (by decide) (by decide) rfl (by decide) (lz_c35 C hL hR x4 cd dd S v f g (k35 rfl))
    · exact lq_tabIn C 2160 dL_law_40 (by decide) (by decide) rfl (by decide) (lz_c36 C hL hR x4 cd dd S v f g (k36 rfl))
    · exact lq_tabIn C 2256 dL_law_40 (by decide) (by decide) rfl (by decide) (lz_c37 C hL hR x4 cd dd S v f g (k37 rfl))
    · exact lq_tabIn C 2312 dL_law_40 (by decide) (by decide) rfl (by decide) (lz_c38 C hL hR x4 cd dd S v f g (k38 rfl))
    · exact lq_tabIn C 2368 dL_law_40 (by decide) (by decide) rfl (by decide) (lz_c39 C hL hR x4 cd dd S v f g (k39 rfl))
    · exact lq_tabIn C 2436 dL_law_40 (by decide) (by decide) rfl (by decide) (lz_c40 C hL hR x4 cd dd S v f g (k40 rfl))
    · exact lq_tabIn C 2504 dL_law_40 (by decide) (by decide) rfl (by decide) (lz_c41 C hL hR x4 cd dd S v f g (k41 rfl))
    · exact lq_tabIn C 2548 dL_law_40 (by decide) (by decide) rfl (by decide) (lz_c42 C hL hR x4 cd dd S v f g (k42 rfl))
    · exact lq_tabIn C 2592 dL_law_40 (by decide) (by decide) rfl (by decide) (lz_c43 C hL hR x4 cd dd S v f g (k43 rfl))
    · exact lq_tabIn C 2605 dL_law_40 (by decide) (by decide) rfl (by decide) (lz_c44 C hL hR x4 cd dd S v f g (k44 rfl))
    · exact lq_tabIn C 2673 dL_law_40 (by decide) (by decide) rfl (by decide) (lz_c45 C hL hR x4 cd dd S v f g (k45 rfl))
    · exact lq_tabIn C 2753 dL_law_40 (by decide) (by decide) rfl (by decide) (lz_c46 C hL hR x4 cd dd S v f g (k46 rfl))
    · exact lq_tabIn C 2809 dL_law_40 (by decide) (by decide) rfl (by decide) (lz_c47 C hL hR x4 cd dd S v f g (k47 rfl))
    · exact lq_tabIn C 2865 dL_law_40 (by decide) (by decide) rfl (by decide) (lz_c48 C hL hR x4 cd dd S v f g (k48 rfl))
    · exact lq_tabIn C 2878 dL_law_40 (by decide) (by decide) rfl (by decide) (lz_c49 C hL hR x4 cd dd S v f g (k49 rfl))
    · exact lq_tabIn C 2891 dL_law_40 (by decide) (by decide) rfl (by decide) (lz_c50 C hL hR x4 cd dd S v f g (k50 rfl))
    · exact lq_tabIn C 2971 dL_law_40 (by decide) (by decide) rfl (by decide) (lz_c51 C hL hR x4 cd dd S v f g (k51 rfl))
    · exact lq_tabIn C 3039 dL_law_40 (by decide) (by decide) rfl (by decide) (lz_c52 C hL hR x4 cd dd S v f g (k52 rfl))
    · exact lq_tabIn C 3107 dL_law_40 (by decide) (by decide) rfl (by decide) (lz_c53 C hL hR x4 cd dd S v f g (k53 rfl))
    · exact lq_tabIn C 3187 dL_law_40 (by decide) (by decide) rfl (by decide) (lz_c54 C hL hR x4 cd dd S v f g (k54 rfl))
    · exact lq_tabIn C 3295 dL_law_40 (by decide) (by decide) rfl (by decide) (lz_c55 C hL hR x4 cd dd S v f g (k55 rfl))
    · exact lq_tabIn C 3387 dL_law_40 (by decide) (by decide) rfl (by decide) (lz_c56 C hL hR x4 cd dd S v f g (k56 rfl))
    · refine lq_tabOut C 3491 dL_law_40 (Or.inr ?_) (by decide) ?_
      · rw [nI_toInt (by omega)]
        omega
      · exact lz_tail C hR x4 cd dd S v f g (kt j h57 (by omega) rfl)
/-- the law, out of its predicate -/
theorem lz_loop (C : lC p l s m meth c b L xs D Y tp dp) (hL : L < 2 ^ 31) (x4 : Int32) (cd dd : Nat) (S : cS) (v : Nat → Int32) (f : Nat → Nat → Int32) (g : Nat → Nat → Int64) (h : lw_loop xs L dp x out x4 cd dd S v f g) : lG p l e s m below meth c b D Y cd dd 23 [(4, .int x4), (3, .ref out), (2, .ref (a 0)), (1, .ref x), (0, .ref b)] [] S a v f g :=
  h (fun y => lG p l e s m below meth c b D Y (y.2.1) (y.2.2.1) 23 [(4, .int (y.1)), (3, .ref out), (2, .ref (a 0)), (1, .ref x), (0, .ref b)] [] (y.2.2.2.1) a (y.2.2.2.2.1) (y.2.2.2.2.2.1) (y.2.2.2.2.2.2)) (fun y hy => lz_23 C hL (fun x4 cd dd S v f g z => z) (y.1) (y.2.1) (y.2.2.1) (y.2.2.2.1) (y.2.2.2.2.1) (y.2.2.2.2.2.1) (y.2.2.2.2.2.2) hy)
end WL2
