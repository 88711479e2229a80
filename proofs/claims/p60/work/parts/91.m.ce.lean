/-! the law's methods as predicates, and their contracts -/
section S_L_isMerged
variable {p : Program} {l : Launch} {e : Env} {s : State} {m : MethodId} {args : Array Value} {below : List Frame} {meth : Method} {c : Code} {A : Nat → Prop} {D : va_G} {Y : cY} {tp dp : Nat}
set_option maxRecDepth 20000 in
theorem tb_L_isMerged_215 {mc ms : Nat} (C : cC p s m args meth c cL_isMerged 16 (some .boolean) A D Y tp dp RL) (hlt : l.stackTraces = false) {post : Int32 → cS → Prop}   (t0 : Int32) (t1 : Nat) (cd dd : Nat) (S : cS) (h : k_L_isMerged_215 post dp mc ms  t0 t1 cd dd S) : cG p l e (cRm 13 mc ms 310) s m args below meth c A D Y 16 (MQ below (cQi post D Y A) args s mc ms A) cd dd 215 [] [.int t0, .ref t1] S := by
  unfold k_L_isMerged_215 at h
  obtain ⟨mc1, ms2, hm_1, hm_2, h⟩ := h
  refine cg_callsWi C (tw_L_did l hlt mc1 ms2 t1 t0 S dp h) cc_L_205 rfl ⟨by decide, by decide⟩ ⟨hm_1, hm_2⟩ rfl (Nat.le_of_ble_eq_true rfl) dL_isMerged_215 (fun r_3 S_3 h => ?_)
  refine cg_bipush C (x := (-7)) rfl dL_isMerged_218 ?_
  refine cg_icmp_ne C 227 (by decide) dL_isMerged_220 (fun c_ => ?_) (fun c_ => ?_)
  · have h := h.1 c_
    refine cg_iconst C (x := nI 0) rfl dL_isMerged_227 ?_
    obtain ⟨hb_228, h⟩ := h
    refine cg_cast (.int (bI false)) rfl ?_
    exact cg_zret C (bI_nar _) h dL_isMerged_228 hb_228.1 hb_228.2
  · have h := h.2 c_
    refine cg_iconst C (x := nI 1) rfl dL_isMerged_223 ?_
    refine cg_goto C 228 (by decide) dL_isMerged_224 ?_
    obtain ⟨hb_228, h⟩ := h
    refine cg_cast (.int (bI true)) rfl ?_
    exact cg_zret C (bI_nar _) h dL_isMerged_228 hb_228.1 hb_228.2
set_option maxRecDepth 20000 in
theorem tb_L_isMerged_203 {mc ms : Nat} (C : cC p s m args meth c cL_isMerged 16 (some .boolean) A D Y tp dp RL) (hlt : l.stackTraces = false) {post : Int32 → cS → Prop}   (x0 : Nat) (x11 : Int32) (cd dd : Nat) (S : cS) (h : k_L_isMerged_203 post dp mc ms  x0 x11 cd dd S) : cG p l e (cRm 13 mc ms 310) s m args below meth c A D Y 16 (MQ below (cQi post D Y A) args s mc ms A) cd dd 203 [(0, .ref x0), (11, .int x11)] [] S := by
  unfold k_L_isMerged_203 at h
  refine cg_aload_n C (i := 0) rfl 0 rfl dL_isMerged_203 ?_
  refine cg_iload C 1 rfl dL_isMerged_204 ?_
  refine cg_iconst C (x := nI 1) rfl dL_isMerged_206 ?_
  refine cg_icmp_ne C 214 (by decide) dL_isMerged_207 (fun c_ => ?_) (fun c_ => ?_)
  · have h := h.1 c_
    refine cg_iconst C (x := nI 3) rfl dL_isMerged_214 ?_
    exact cg_sub [] rfl (tb_L_isMerged_215 C hlt  ((nI 3)) x0 cd dd S h)
  · have h := h.2 c_
    refine cg_iconst C (x := nI 2) rfl dL_isMerged_210 ?_
    refine cg_goto C 215 (by decide) dL_isMerged_211 ?_
    exact cg_sub [] rfl (tb_L_isMerged_215 C hlt  ((nI 2)) x0 cd dd S h)
set_option maxRecDepth 20000 in
theorem tb_L_isMerged_546 {mc ms : Nat} (C : cC p s m args meth c cL_isMerged 16 (some .boolean) A D Y tp dp RL) (hlt : l.stackTraces = false) {post : Int32 → cS → Prop}   (x0 : Nat) (x10 : Nat) (cd dd : Nat) (S : cS) (h : k_L_isMerged_546 post dp mc ms  x0 x10 cd dd S) : cG p l e (cRm 13 mc ms 310) s m args below meth c A D Y 16 (MQ below (cQi post D Y A) args s mc ms A) cd dd 546 [(0, .ref x0), (10, .ref x10)] [] S := by
  unfold k_L_isMerged_546 at h
  refine cg_aload C 1 rfl dL_isMerged_546 ?_
  refine cg_bipush C (x := nI 9) rfl dL_isMerged_548 ?_
  refine cg_iconst C (x := nI 0) rfl dL_isMerged_550 ?_
  obtain ⟨hc_551, h⟩ := h
  refine cg_iastoreR C hc_551 dL_isMerged_551 ?_
  refine cg_nm (fun S13 e_S13 => ?_)
  have h := h S13 e_S13
  refine cg_aload_n C (i := 0) rfl 0 rfl dL_isMerged_552 ?_
  refine cg_iconst C (x := nI 2) rfl dL_isMerged_553 ?_
  obtain ⟨mc14, ms15, hm_1, hm_2, h⟩ := h
  refine cg_callsWi C (tw_L_did l hlt mc14 ms15 x0 ((nI 2)) S13 dp h) cc_L_205 rfl ⟨by decide, by decide⟩ ⟨hm_1, hm_2⟩ rfl (Nat.le_of_ble_eq_true rfl) dL_isMerged_554 (fun r_16 S_16 h => ?_)
  refine cg_iconst C (x := (-1)) rfl dL_isMerged_557 ?_
  refine cg_icmp_ne C 565 (by decide) dL_isMerged_558 (fun c_ => ?_) (fun c_ => ?_)
  · have h := h.1 c_
    refine cg_iconst C (x := nI 0) rfl dL_isMerged_565 ?_
    obtain ⟨hb_566, h⟩ := h
    refine cg_cast (.int (bI false)) rfl ?_
    exact cg_zret C (bI_nar _) h dL_isMerged_566 hb_566.1 hb_566.2
  · have h := h.2 c_
    refine cg_iconst C (x := nI 1) rfl dL_isMerged_561 ?_
    refine cg_goto C 566 (by decide) dL_isMerged_562 ?_
    obtain ⟨hb_566, h⟩ := h
    refine cg_cast (.int (bI true)) rfl ?_
    exact cg_zret C (bI_nar _) h dL_isMerged_566 hb_566.1 hb_566.2
set_option maxRecDepth 20000 in
theorem tb_L_isMerged_488 {mc ms : Nat} (C : cC p s m args meth c cL_isMerged 16 (some .boolean) A D Y tp dp RL) (hlt : l.stackTraces = false) {post : Int32 → cS → Prop} {R488 : Nat → Nat → Nat → Int32 → Int32 → Int32 → Int32 → Nat → Nat → cS → Prop} (hR488 : ∀ (x0 : Nat) (x5 : Nat) (x10 : Nat) (x12 : Int32) (x13 : Int32) (x14 : Int32) (x15 : Int32) (cd dd : Nat) (S : cS), R488 x0 x5 x10 x12 x13 x14 x15 cd dd S → cG p l e (cRm 13 mc ms 310) s m args below meth c A D Y 16 (MQ below (cQi post D Y A) args s mc ms A) cd dd 488 [(0, .ref x0), (5, .ref x5), (10, .ref x10), (12, .int x12), (13, .int x13), (14, .int x14), (15, .int x15)] [] S) (x0 : Nat) (x5 : Nat) (x10 : Nat) (x12 : Int32) (x13 : Int32) (x14 : Int32) (x15 : Int32) (cd dd : Nat) (S : cS) (h : k_L_isMerged_488 post dp mc ms R488 x0 x5 x10 x12 x13 x14 x15 cd dd S) : cG p l e (cRm 13 mc ms 310) s m args below meth c A D Y 16 (MQ below (cQi post D Y A) args s mc ms A) cd dd 488 [(0, .ref x0), (5, .ref x5), (10, .ref x10), (12, .int x12), (13, .int x13), (14, .int x14), (15, .int x15)] [] S := by
  unfold k_L_isMerged_488 at h
  refine cg_iload C 6 rfl dL_isMerged_488 ?_
  refine cg_aload C 2 rfl dL_isMerged_490 ?_
  refine cg_iconst C (x := nI 3) rfl dL_isMerged_492 ?_
  obtain ⟨hc_493, h⟩ := h
  refine cg_ialoadR C hc_493 dL_isMerged_493 ?_
  refine cg_icmp_ge C 516 (by decide) dL_isMerged_494 (fun c_ => ?_) (fun c_ => ?_)
  · have h := h.1 c_
    refine cg_aload C 2 rfl dL_isMerged_516 ?_
    refine cg_iconst C (x := nI 3) rfl dL_isMerged_518 ?_
    refine cg_dup2 C rfl rfl dL_isMerged_519 ?_
    obtain ⟨hc_520, h⟩ := h
    refine cg_ialoadR C hc_520 dL_isMerged_520 ?_
    refine cg_iload C 5 rfl dL_isMerged_521 ?_
    refine cg_isub C dL_isMerged_523 ?_
    obtain ⟨hc_524, h⟩ := h
    refine cg_iastoreR C hc_524 dL_isMerged_524 ?_
    refine cg_nm (fun S12 e_S12 => ?_)
    have h := h S12 e_S12
    refine cg_iload C 5 rfl dL_isMerged_525 ?_
    refine cg_iconst C (x := nI 2) rfl dL_isMerged_527 ?_
    refine cg_icmp_ne C 546 (by decide) dL_isMerged_528 (fun c_ => ?_) (fun c_ => ?_)
    · have h := h.1 c_
      exact cg_sub [0, 2] rfl (tb_L_isMerged_546 C hlt  x0 x10 cd dd S12 h)
    · have h := h.2 c_
      refine cg_aload C 1 rfl dL_isMerged_531 ?_
      refine cg_iload C 3 rfl dL_isMerged_533 ?_
      refine cg_iload C 4 rfl dL_isMerged_535 ?_
      obtain ⟨hc_537, h⟩ := h
      refine cg_iastoreR C hc_537 dL_isMerged_537 ?_
      refine cg_nm (fun S17 e_S17 => ?_)
      have h := h S17 e_S17
      refine cg_aload C 2 rfl dL_isMerged_538 ?_
      refine cg_iconst C (x := nI 2) rfl dL_isMerged_540 ?_
      refine cg_dup2 C rfl rfl dL_isMerged_541 ?_
      obtain ⟨hc_542, h⟩ := h
      refine cg_ialoadR C hc_542 dL_isMerged_542 ?_
      refine cg_iconst C (x := nI 1) rfl dL_isMerged_543 ?_
      refine cg_iadd C dL_isMerged_544 ?_
      obtain ⟨hc_545, h⟩ := h
      refine cg_iastoreR C hc_545 dL_isMerged_545 ?_
      refine cg_nm (fun S18 e_S18 => ?_)
      have h := h S18 e_S18
      exact cg_sub [0, 2] rfl (tb_L_isMerged_546 C hlt  x0 x10 cd dd S18 h)
  · have h := h.2 c_
    refine cg_aload C 1 rfl dL_isMerged_497 ?_
    refine cg_iload C 6 rfl dL_isMerged_499 ?_
    refine cg_iload C 5 rfl dL_isMerged_501 ?_
    refine cg_isub C dL_isMerged_503 ?_
    refine cg_aload C 1 rfl dL_isMerged_504 ?_
    refine cg_iload C 6 rfl dL_isMerged_506 ?_
    obtain ⟨hc_508, h⟩ := h
    refine cg_ialoadR C hc_508 dL_isMerged_508 ?_
    obtain ⟨hc_509, h⟩ := h
    refine cg_iastoreR C hc_509 dL_isMerged_509 ?_
    refine cg_nm (fun S19 e_S19 => ?_)
    have h := h S19 e_S19
    obtain ⟨x15_20, e_x15_20⟩ : ∃ z : Int32, z = x15 + nI 1 := ⟨_, rfl⟩
    have h := h x15_20 e_x15_20
    refine cg_iinc C (lv' := [(15, .int x15_20), (0, .ref x0), (5, .ref x5), (10, .ref x10), (12, .int x12), (13, .int x13), (14, .int x14)]) 6 rfl (by rw [e_x15_20]; rfl) (Nat.le_of_ble_eq_true rfl) rfl dL_isMerged_510 ?_
    refine cg_goto C 488 (by decide) dL_isMerged_513 ?_
    exact cg_sub [1, 2, 3, 4, 5, 6, 0] rfl (hR488 x0 x5 x10 x12 x13 x14 x15_20 cd dd S19 h)
set_option maxRecDepth 20000 in
theorem tl_L_isMerged_488 {mc ms : Nat} (C : cC p s m args meth c cL_isMerged 16 (some .boolean) A D Y tp dp RL) (hlt : l.stackTraces = false) {post : Int32 → cS → Prop}   (x0 : Nat) (x5 : Nat) (x10 : Nat) (x12 : Int32) (x13 : Int32) (x14 : Int32) (x15 : Int32) (cd dd : Nat) (S : cS) (h : k_L_isMerged_488L post dp mc ms  x0 x5 x10 x12 x13 x14 x15 cd dd S) : cG p l e (cRm 13 mc ms 310) s m args below meth c A D Y 16 (MQ below (cQi post D Y A) args s mc ms A) cd dd 488 [(0, .ref x0), (5, .ref x5), (10, .ref x10), (12, .int x12), (13, .int x13), (14, .int x14), (15, .int x15)] [] S :=
  h (fun y => cG p l e (cRm 13 mc ms 310) s m args below meth c A D Y 16 (MQ below (cQi post D Y A) args s mc ms A) (y.2.2.2.2.2.2.2.1) (y.2.2.2.2.2.2.2.2.1) 488 [(0, .ref (y.1)), (5, .ref (y.2.1)), (10, .ref (y.2.2.1)), (12, .int (y.2.2.2.1)), (13, .int (y.2.2.2.2.1)), (14, .int (y.2.2.2.2.2.1)), (15, .int (y.2.2.2.2.2.2.1))] [] (y.2.2.2.2.2.2.2.2.2)) (fun y hy => tb_L_isMerged_488 C hlt  (fun b0 b1 b2 b3 b4 b5 b6 b7 b8 S z => z) (y.1) (y.2.1) (y.2.2.1) (y.2.2.2.1) (y.2.2.2.2.1) (y.2.2.2.2.2.1) (y.2.2.2.2.2.2.1) (y.2.2.2.2.2.2.2.1) (y.2.2.2.2.2.2.2.2.1) (y.2.2.2.2.2.2.2.2.2) hy)
set_option maxRecDepth 20000 in
theorem tb_L_isMerged_378 {mc ms : Nat} (C : cC p s m args meth c cL_isMerged 16 (some .boolean) A D Y tp dp RL) (hlt : l.stackTraces = false) {post : Int32 → cS → Prop} {R378 : Nat → Nat → Nat → Nat → Nat → Nat → Nat → Nat → Int32 → Int32 → Int32 → Int32 → Nat → Nat → cS → Prop} (hR378 : ∀ (x0 : Nat) (x1 : Nat) (x2 : Nat) (x3 : Nat) (x4 : Nat) (x5 : Nat) (x6 : Nat) (x10 : Nat) (x12 : Int32) (x13 : Int32) (x14 : Int32) (x15 : Int32) (cd dd : Nat) (S : cS), R378 x0 x1 x2 x3 x4 x5 x6 x10 x12 x13 x14 x15 cd dd S → cG p l e (cRm 13 mc ms 310) s m args below meth c A D Y 16 (MQ below (cQi post D Y A) args s mc ms A) cd dd 378 [(0, .ref x0), (1, .ref x1), (2, .ref x2), (3, .ref x3), (4, .ref x4), (5, .ref x5), (6, .ref x6), (10, .ref x10), (12, .int x12), (13, .int x13), (14, .int x14), (15, .int x15)] [] S) (x0 : Nat) (x1 : Nat) (x2 : Nat) (x3 : Nat) (x4 : Nat) (x5 : Nat) (x6 : Nat) (x10 : Nat) (x12 : Int32) (x13 : Int32) (x14 : Int32) (x15 : Int32) (cd dd : Nat) (S : cS) (h : k_L_isMerged_378 post dp mc ms R378 x0 x1 x2 x3 x4 x5 x6 x10 x12 x13 x14 x15 cd dd S) : cG p l e (cRm 13 mc ms 310) s m args below meth c A D Y 16 (MQ below (cQi post D Y A) args s mc ms A) cd dd 378 [(0, .ref x0), (1, .ref x1), (2, .ref x2), (3, .ref x3), (4, .ref x4), (5, .ref x5), (6, .ref x6), (10, .ref x10), (12, .int x12), (13, .int x13), (14, .int x14), (15, .int x15)] [] S := by
  unfold k_L_isMerged_378 at h
  refine cg_iload C 11 rfl dL_isMerged_378 ?_
  refine cg_aload C 7 rfl dL_isMerged_380 ?_
  refine cg_bipush C (x := nI 12) rfl dL_isMerged_382 ?_
  obtain ⟨hc_384, h⟩ := h
  refine cg_ialoadR C hc_384 dL_isMerged_384 ?_
  refine cg_icmp_ge C 459 (by decide) dL_isMerged_385 (fun c_ => ?_) (fun c_ => ?_)
  · have h := h.1 c_
    refine cg_aload_n C (i := 2) rfl 2 rfl dL_isMerged_459 ?_
    refine cg_iload C 9 rfl dL_isMerged_460 ?_
    refine cg_aload C 7 rfl dL_isMerged_462 ?_
    refine cg_bipush C (x := nI 12) rfl dL_isMerged_464 ?_
    obtain ⟨hc_466, h⟩ := h
    refine cg_ialoadR C hc_466 dL_isMerged_466 ?_
    obtain ⟨hc_467, h⟩ := h
    refine cg_iastoreR C hc_467 dL_isMerged_467 ?_
    refine cg_nm (fun S9 e_S9 => ?_)
    have h := h S9 e_S9
    refine cg_aload C 4 rfl dL_isMerged_468 ?_
    refine cg_iload C 9 rfl dL_isMerged_470 ?_
    refine cg_iconst C (x := nI 1) rfl dL_isMerged_472 ?_
    refine cg_aload C 7 rfl dL_isMerged_473 ?_
    refine cg_bipush C (x := nI 12) rfl dL_isMerged_475 ?_
    obtain ⟨hc_477, h⟩ := h
    refine cg_ialoadR C hc_477 dL_isMerged_477 ?_
    refine cg_ishl C dL_isMerged_478 ?_
    refine cg_iconst C (x := nI 1) rfl dL_isMerged_479 ?_
    refine cg_isub C dL_isMerged_480 ?_
    obtain ⟨hc_481, h⟩ := h
    refine cg_iastoreR C hc_481 dL_isMerged_481 ?_
    refine cg_nm (fun S10 e_S10 => ?_)
    have h := h S10 e_S10
    refine cg_iload C 8 rfl dL_isMerged_482 ?_
    refine cg_iconst C (x := nI 3) rfl dL_isMerged_484 ?_
    refine cg_iadd C dL_isMerged_485 ?_
    refine cg_nmI (fun x15_11 e_x15_11 => ?_)
    have h := h x15_11 e_x15_11
    refine cg_istore C (lv' := [(15, .int x15_11), (0, .ref x0), (1, .ref x1), (2, .ref x2), (3, .ref x3), (4, .ref x4), (5, .ref x5), (6, .ref x6), (10, .ref x10), (12, .int x12), (13, .int x13), (14, .int x14)]) (Nat.le_of_ble_eq_true rfl) rfl dL_isMerged_486 ?_
    exact cg_sub [1, 6, 8, 9, 10, 11, 0] rfl (tl_L_isMerged_488 C hlt  x0 x5 x10 x12 x13 x14 x15_11 cd dd S10 h)
  · have h := h.2 c_
    refine cg_aload_n C (i := 1) rfl 1 rfl dL_isMerged_388 ?_
    refine cg_iload C 9 rfl dL_isMerged_389 ?_
    refine cg_dup2 C rfl rfl dL_isMerged_391 ?_
    obtain ⟨hc_392, h⟩ := h
    refine cg_laloadR C hc_392 dL_isMerged_392 ?_
    refine cg_aload_n C (i := 1) rfl 1 rfl dL_isMerged_393 ?_
    refine cg_aload C 6 rfl dL_isMerged_394 ?_
    refine cg_iload C 11 rfl dL_isMerged_396 ?_
    obtain ⟨hc_398, h⟩ := h
    refine cg_ialoadR C hc_398 dL_isMerged_398 ?_
    refine cg_bipush C (x := nI 16) rfl dL_isMerged_399 ?_
    refine cg_idiv C (by decide) dL_isMerged_401 ?_
    refine cg_aload C 6 rfl dL_isMerged_402 ?_
    refine cg_iload C 11 rfl dL_isMerged_404 ?_
    obtain ⟨hc_406, h⟩ := h
    refine cg_ialoadR C hc_406 dL_isMerged_406 ?_
    refine cg_bipush C (x := nI 16) rfl dL_isMerged_407 ?_
    refine cg_irem C (by decide) dL_isMerged_409 ?_
    obtain ⟨hb_410, h⟩ := h
    refine cg_callsi C (t_L_record l x1 ((((cI S x6 (x15).toNatClampNeg)) / ((nI 16)))) ((((cI S x6 (x15).toNatClampNeg)) - ((cI S x6 (x15).toNatClampNeg)) / ((nI 16)) * ((nI 16)))) S dp h) cc_L_26 rfl ⟨by decide, by decide⟩ hb_410 rfl (Nat.le_of_ble_eq_true rfl) dL_isMerged_410 (fun r_21 S_21 h => ?_)
    simp only [Nat.add_zero]
    refine cg_i2l C dL_isMerged_413 ?_
    refine cg_bipush C (x := nI 6) rfl dL_isMerged_414 ?_
    refine cg_iload C 11 rfl dL_isMerged_416 ?_
    refine cg_imul C dL_isMerged_418 ?_
    refine cg_lshl C dL_isMerged_419 ?_
    refine cg_lor C dL_isMerged_420 ?_
    obtain ⟨hc_421, h⟩ := h
    refine cg_lastoreR C hc_421 dL_isMerged_421 ?_
    refine cg_nm (fun S22 e_S22 => ?_)
    have h := h S22 e_S22
    refine cg_aload_n C (i := 3) rfl 3 rfl dL_isMerged_422 ?_
    refine cg_iload C 9 rfl dL_isMerged_423 ?_
    refine cg_dup2 C rfl rfl dL_isMerged_425 ?_
    obtain ⟨hc_426, h⟩ := h
    refine cg_ialoadR C hc_426 dL_isMerged_426 ?_
    refine cg_aload_n C (i := 3) rfl 3 rfl dL_isMerged_427 ?_
    refine cg_aload C 6 rfl dL_isMerged_428 ?_
    refine cg_iload C 11 rfl dL_isMerged_430 ?_
    obtain ⟨hc_432, h⟩ := h
    refine cg_ialoadR C hc_432 dL_isMerged_432 ?_
    refine cg_bipush C (x := nI 16) rfl dL_isMerged_433 ?_
    refine cg_idiv C (by decide) dL_isMerged_435 ?_
    obtain ⟨hc_436, h⟩ := h
    refine cg_ialoadR C hc_436 dL_isMerged_436 ?_
    refine cg_aload C 6 rfl dL_isMerged_437 ?_
    refine cg_iload C 11 rfl dL_isMerged_439 ?_
    obtain ⟨hc_441, h⟩ := h
    refine cg_ialoadR C hc_441 dL_isMerged_441 ?_
    refine cg_bipush C (x := nI 16) rfl dL_isMerged_442 ?_
    refine cg_irem C (by decide) dL_isMerged_444 ?_
    refine cg_ishr C dL_isMerged_445 ?_
    refine cg_iconst C (x := nI 1) rfl dL_isMerged_446 ?_
    refine cg_iand C dL_isMerged_447 ?_
    refine cg_iload C 11 rfl dL_isMerged_448 ?_
    refine cg_ishl C dL_isMerged_450 ?_
    refine cg_ior C dL_isMerged_451 ?_
    obtain ⟨hc_452, h⟩ := h
    refine cg_iastoreR C hc_452 dL_isMerged_452 ?_
    refine cg_nm (fun S23 e_S23 => ?_)
    have h := h S23 e_S23
    obtain ⟨x15_24, e_x15_24⟩ : ∃ z : Int32, z = x15 + nI 1 := ⟨_, rfl⟩
    have h := h x15_24 e_x15_24
    refine cg_iinc C (lv' := [(15, .int x15_24), (0, .ref x0), (1, .ref x1), (2, .ref x2), (3, .ref x3), (4, .ref x4), (5, .ref x5), (6, .ref x6), (10, .ref x10), (12, .int x12), (13, .int x13), (14, .int x14)]) 11 rfl (by rw [e_x15_24]; rfl) (Nat.le_of_ble_eq_true rfl) rfl dL_isMerged_453 ?_
    refine cg_goto C 378 (by decide) dL_isMerged_456 ?_
    exact cg_sub [1, 2, 3, 4, 5, 6, 7, 8, 9, 10, 11, 0] rfl (hR378 x0 x1 x2 x3 x4 x5 x6 x10 x12 x13 x14 x15_24 cd dd S23 h)
set_option maxRecDepth 20000 in
theorem tl_L_isMerged_378 {mc ms : Nat} (C : cC p s m args meth c cL_isMerged 16 (some .boolean) A D Y tp dp RL) (hlt : l.stackTraces = false) {post : Int32 → cS → Prop}   (x0 : Nat) (x1 : Nat) (x2 : Nat) (x3 : Nat) (x4 : Nat) (x5 : Nat) (x6 : Nat) (x10 : Nat) (x12 : Int32) (x13 : Int32) (x14 : Int32) (x15 : Int32) (cd dd : Nat) (S : cS) (h : k_L_isMerged_378L post dp mc ms  x0 x1 x2 x3 x4 x5 x6 x10 x12 x13 x14 x15 cd dd S) : cG p l e (cRm 13 mc ms 310) s m args below meth c A D Y 16 (MQ below (cQi post D Y A) args s mc ms A) cd dd 378 [(0, .ref x0), (1, .ref x1), (2, .ref x2), (3, .ref x3), (4, .ref x4), (5, .ref x5), (6, .ref x6), (10, .ref x10), (12, .int x12), (13, .int x13), (14, .int x14), (15, .int x15)] [] S :=
  h (fun y => cG p l e (cRm 13 mc ms 310) s m args below meth c A D Y 16 (MQ below (cQi post D Y A) args s mc ms A) (y.2.2.2.2.2.2.2.2.2.2.2.2.1) (y.2.2.2.2.2.2.2.2.2.2.2.2.2.1) 378 [(0, .ref (y.1)), (1, .ref (y.2.1)), (2, .ref (y.2.2.1)), (3, .ref (y.2.2.2.1)), (4, .ref (y.2.2.2.2.1)), (5, .ref (y.2.2.2.2.2.1)), (6, .ref (y.2.2.2.2.2.2.1)), (10, .ref (y.2.2.2.2.2.2.2.1)), (12, .int (y.2.2.2.2.2.2.2.2.1)), (13, .int (y.2.2.2.2.2.2.2.2.2.1)), (14, .int (y.2.2.2.2.2.2.2.2.2.2.1)), (15, .int (y.2.2.2.2.2.2.2.2.2.2.2.1))] [] (y.2.2.2.2.2.2.2.2.2.2.2.2.2.2)) (fun y hy => tb_L_isMerged_378 C hlt  (fun b0 b1 b2 b3 b4 b5 b6 b7 b8 b9 b10 b11 b12 b13 S z => z) (y.1) (y.2.1) (y.2.2.1) (y.2.2.2.1) (y.2.2.2.2.1) (y.2.2.2.2.2.1) (y.2.2.2.2.2.2.1) (y.2.2.2.2.2.2.2.1) (y.2.2.2.2.2.2.2.2.1) (y.2.2.2.2.2.2.2.2.2.1) (y.2.2.2.2.2.2.2.2.2.2.1) (y.2.2.2.2.2.2.2.2.2.2.2.1) (y.2.2.2.2.2.2.2.2.2.2.2.2.1) (y.2.2.2.2.2.2.2.2.2.2.2.2.2.1) (y.2.2.2.2.2.2.2.2.2.2.2.2.2.2) hy)
set_option maxRecDepth 20000 in
theorem tb_L_isMerged_363 {mc ms : Nat} (C : cC p s m args meth c cL_isMerged 16 (some .boolean) A D Y tp dp RL) (hlt : l.stackTraces = false) {post : Int32 → cS → Prop}   (x0 : Nat) (x1 : Nat) (x2 : Nat) (x3 : Nat) (x4 : Nat) (x5 : Nat) (x6 : Nat) (x10 : Nat) (x12 : Int32) (x13 : Int32) (t0 : Int32) (cd dd : Nat) (S : cS) (h : k_L_isMerged_363 post dp mc ms  x0 x1 x2 x3 x4 x5 x6 x10 x12 x13 t0 cd dd S) : cG p l e (cRm 13 mc ms 310) s m args below meth c A D Y 16 (MQ below (cQi post D Y A) args s mc ms A) cd dd 363 [(0, .ref x0), (1, .ref x1), (2, .ref x2), (3, .ref x3), (4, .ref x4), (5, .ref x5), (6, .ref x6), (10, .ref x10), (12, .int x12), (13, .int x13)] [.int t0] S := by
  unfold k_L_isMerged_363 at h
  refine cg_istore C (lv' := [(14, .int t0), (0, .ref x0), (1, .ref x1), (2, .ref x2), (3, .ref x3), (4, .ref x4), (5, .ref x5), (6, .ref x6), (10, .ref x10), (12, .int x12), (13, .int x13)]) (Nat.le_of_ble_eq_true rfl) rfl dL_isMerged_363 ?_
  refine cg_aload_n C (i := 1) rfl 2 rfl dL_isMerged_365 ?_
  refine cg_iload C 10 rfl dL_isMerged_366 ?_
  refine cg_lconst C (x := 0) rfl dL_isMerged_368 ?_
  obtain ⟨hc_369, h⟩ := h
  refine cg_lastoreR C hc_369 dL_isMerged_369 ?_
  refine cg_nm (fun S7 e_S7 => ?_)
  have h := h S7 e_S7
  refine cg_aload_n C (i := 3) rfl 4 rfl dL_isMerged_370 ?_
  refine cg_iload C 10 rfl dL_isMerged_371 ?_
  refine cg_iconst C (x := nI 0) rfl dL_isMerged_373 ?_
  obtain ⟨hc_374, h⟩ := h
  refine cg_iastoreR C hc_374 dL_isMerged_374 ?_
  refine cg_nm (fun S8 e_S8 => ?_)
  have h := h S8 e_S8
  refine cg_iconst C (x := nI 0) rfl dL_isMerged_375 ?_
  refine cg_istore C (lv' := [(15, .int ((nI 0))), (14, .int t0), (0, .ref x0), (1, .ref x1), (2, .ref x2), (3, .ref x3), (4, .ref x4), (5, .ref x5), (6, .ref x6), (10, .ref x10), (12, .int x12), (13, .int x13)]) (Nat.le_of_ble_eq_true rfl) rfl dL_isMerged_376 ?_
  exact cg_sub [2, 3, 4, 5, 6, 7, 8, 9, 10, 11, 1, 0] rfl (tl_L_isMerged_378 C hlt  x0 x1 x2 x3 x4 x5 x6 x10 x12 x13 t0 (((nI 0))) cd dd S8 h)
set_option maxRecDepth 20000 in
theorem tb_L_isMerged_177 {mc ms : Nat} (C : cC p s m args meth c cL_isMerged 16 (some .boolean) A D Y tp dp RL) (hlt : l.stackTraces = false) {post : Int32 → cS → Prop}   (t0 : Int32) (t1 : Int32) (cd dd : Nat) (S : cS) (h : k_L_isMerged_177 post dp mc ms  t0 t1 cd dd S) : cG p l e (cRm 13 mc ms 310) s m args below meth c A D Y 16 (MQ below (cQi post D Y A) args s mc ms A) cd dd 177 [] [.int t0, .int t1] S := by
  unfold k_L_isMerged_177 at h
  refine cg_icmp_ne C 184 (by decide) dL_isMerged_177 (fun c_ => ?_) (fun c_ => ?_)
  · have h := h.1 c_
    refine cg_iconst C (x := nI 0) rfl dL_isMerged_184 ?_
    obtain ⟨hb_185, h⟩ := h
    refine cg_cast (.int (bI false)) rfl ?_
    exact cg_zret C (bI_nar _) h dL_isMerged_185 hb_185.1 hb_185.2
  · have h := h.2 c_
    refine cg_iconst C (x := nI 1) rfl dL_isMerged_180 ?_
    refine cg_goto C 185 (by decide) dL_isMerged_181 ?_
    obtain ⟨hb_185, h⟩ := h
    refine cg_cast (.int (bI true)) rfl ?_
    exact cg_zret C (bI_nar _) h dL_isMerged_185 hb_185.1 hb_185.2
set_option maxRecDepth 20000 in
theorem tb_L_isMerged_157 {mc ms : Nat} (C : cC p s m args meth c cL_isMerged 16 (some .boolean) A D Y tp dp RL) (hlt : l.stackTraces = false) {post : Int32 → cS → Prop}   (x0 : Nat) (x10 : Nat) (x13 : Int32) (cd dd : Nat) (S : cS) (h : k_L_isMerged_157 post dp mc ms  x0 x10 x13 cd dd S) : cG p l e (cRm 13 mc ms 310) s m args below meth c A D Y 16 (MQ below (cQi post D Y A) args s mc ms A) cd dd 157 [(0, .ref x0), (10, .ref x10), (13, .int x13)] [] S := by
  unfold k_L_isMerged_157 at h
  refine cg_aload_n C (i := 0) rfl 0 rfl dL_isMerged_157 ?_
  refine cg_iconst C (x := nI 1) rfl dL_isMerged_158 ?_
  obtain ⟨mc37, ms38, hm_1, hm_2, h⟩ := h
  refine cg_callsWi C (tw_L_did l hlt mc37 ms38 x0 ((nI 1)) S dp h) cc_L_205 rfl ⟨by decide, by decide⟩ ⟨hm_1, hm_2⟩ rfl (Nat.le_of_ble_eq_true rfl) dL_isMerged_159 (fun r_39 S_39 h => ?_)
  refine cg_iload C 2 rfl dL_isMerged_162 ?_
  refine cg_if_eq C 175 (by decide) dL_isMerged_164 (fun c_ => ?_) (fun c_ => ?_)
  · have h := h.1 c_
    refine cg_bipush C (x := (-7)) rfl dL_isMerged_175 ?_
    exact cg_sub [] rfl (tb_L_isMerged_177 C hlt  (((-7))) r_39 (cd + mc37) (dd + ms38) S_39 h)
  · have h := h.2 c_
    refine cg_aload C 1 rfl dL_isMerged_167 ?_
    refine cg_bipush C (x := nI 12) rfl dL_isMerged_169 ?_
    obtain ⟨hc_171, h⟩ := h
    refine cg_ialoadR C hc_171 dL_isMerged_171 ?_
    refine cg_goto C 177 (by decide) dL_isMerged_172 ?_
    exact cg_sub [] rfl (tb_L_isMerged_177 C hlt  ((cI S_39 x10 ((nI 12)).toNatClampNeg)) r_39 (cd + mc37) (dd + ms38) S_39 h)
set_option maxRecDepth 20000 in
theorem tb_L_isMerged_145 {mc ms : Nat} (C : cC p s m args meth c cL_isMerged 16 (some .boolean) A D Y tp dp RL) (hlt : l.stackTraces = false) {post : Int32 → cS → Prop} {R77 : Nat → Nat → Nat → Nat → Nat → Nat → Int32 → Int32 → Int32 → Nat → Nat → cS → Prop} {R89 : Nat → Nat → Nat → Nat → Nat → Nat → Int32 → Int32 → Int32 → Int32 → Nat → Nat → cS → Prop} (hR77 : ∀ (x0 : Nat) (x2 : Nat) (x3 : Nat) (x5 : Nat) (x6 : Nat) (x10 : Nat) (x12 : Int32) (x13 : Int32) (x14 : Int32) (cd dd : Nat) (S : cS), R77 x0 x2 x3 x5 x6 x10 x12 x13 x14 cd dd S → cG p l e (cRm 13 mc ms 310) s m args below meth c A D Y 16 (MQ below (cQi post D Y A) args s mc ms A) cd dd 77 [(0, .ref x0), (2, .ref x2), (3, .ref x3), (5, .ref x5), (6, .ref x6), (10, .ref x10), (12, .int x12), (13, .int x13), (14, .int x14)] [] S) (hR89 : ∀ (x0 : Nat) (x2 : Nat) (x3 : Nat) (x5 : Nat) (x6 : Nat) (x10 : Nat) (x12 : Int32) (x13 : Int32) (x14 : Int32) (x15 : Int32) (cd dd : Nat) (S : cS), R89 x0 x2 x3 x5 x6 x10 x12 x13 x14 x15 cd dd S → cG p l e (cRm 13 mc ms 310) s m args below meth c A D Y 16 (MQ below (cQi post D Y A) args s mc ms A) cd dd 89 [(0, .ref x0), (2, .ref x2), (3, .ref x3), (5, .ref x5), (6, .ref x6), (10, .ref x10), (12, .int x12), (13, .int x13), (14, .int x14), (15, .int x15)] [] S) (x0 : Nat) (x2 : Nat) (x3 : Nat) (x5 : Nat) (x6 : Nat) (x10 : Nat) (x12 : Int32) (x13 : Int32) (x14 : Int32) (x15 : Int32) (cd dd : Nat) (S : cS) (h : k_L_isMerged_145 post dp mc ms R77 R89 x0 x2 x3 x5 x6 x10 x12 x13 x14 x15 cd dd S) : cG p l e (cRm 13 mc ms 310) s m args below meth c A D Y 16 (MQ below (cQi post D Y A) args s mc ms A) cd dd 145 [(0, .ref x0), (2, .ref x2), (3, .ref x3), (5, .ref x5), (6, .ref x6), (10, .ref x10), (12, .int x12), (13, .int x13), (14, .int x14), (15, .int x15)] [] S := by
  unfold k_L_isMerged_145 at h
  obtain ⟨x15_45, e_x15_45⟩ : ∃ z : Int32, z = x15 + nI 1 := ⟨_, rfl⟩
  have h := h x15_45 e_x15_45
  refine cg_iinc C (lv' := [(15, .int x15_45), (0, .ref x0), (2, .ref x2), (3, .ref x3), (5, .ref x5), (6, .ref x6), (10, .ref x10), (12, .int x12), (13, .int x13), (14, .int x14)]) 9 rfl (by rw [e_x15_45]; rfl) (Nat.le_of_ble_eq_true rfl) rfl dL_isMerged_145 ?_
  refine cg_goto C 89 (by decide) dL_isMerged_148 ?_
  exact cg_sub [1, 2, 3, 4, 5, 6, 7, 8, 9, 0] rfl (hR89 x0 x2 x3 x5 x6 x10 x12 x13 x14 x15_45 cd dd S h)
set_option maxRecDepth 20000 in
theorem tb_L_isMerged_89 {mc ms : Nat} (C : cC p s m args meth c cL_isMerged 16 (some .boolean) A D Y tp dp RL) (hlt : l.stackTraces = false) {post : Int32 → cS → Prop} {R77 : Nat → Nat → Nat → Nat → Nat → Nat → Int32 → Int32 → Int32 → Nat → Nat → cS → Prop} {R89 : Nat → Nat → Nat → Nat → Nat → Nat → Int32 → Int32 → Int32 → Int32 → Nat → Nat → cS → Prop} (hR77 : ∀ (x0 : Nat) (x2 : Nat) (x3 : Nat) (x5 : Nat) (x6 : Nat) (x10 : Nat) (x12 : Int32) (x13 : Int32) (x14 : Int32) (cd dd : Nat) (S : cS), R77 x0 x2 x3 x5 x6 x10 x12 x13 x14 cd dd S → cG p l e (cRm 13 mc ms 310) s m args below meth c A D Y 16 (MQ below (cQi post D Y A) args s mc ms A) cd dd 77 [(0, .ref x0), (2, .ref x2), (3, .ref x3), (5, .ref x5), (6, .ref x6), (10, .ref x10), (12, .int x12), (13, .int x13), (14, .int x14)] [] S) (hR89 : ∀ (x0 : Nat) (x2 : Nat) (x3 : Nat) (x5 : Nat) (x6 : Nat) (x10 : Nat) (x12 : Int32) (x13 : Int32) (x14 : Int32) (x15 : Int32) (cd dd : Nat) (S : cS), R89 x0 x2 x3 x5 x6 x10 x12 x13 x14 x15 cd dd S → cG p l e (cRm 13 mc ms 310) s m args below meth c A D Y 16 (MQ below (cQi post D Y A) args s mc ms A) cd dd 89 [(0, .ref x0), (2, .ref x2), (3, .ref x3), (5, .ref x5), (6, .ref x6), (10, .ref x10), (12, .int x12), (13, .int x13), (14, .int x14), (15, .int x15)] [] S) (x0 : Nat) (x2 : Nat) (x3 : Nat) (x5 : Nat) (x6 : Nat) (x10 : Nat) (x12 : Int32) (x13 : Int32) (x14 : Int32) (x15 : Int32) (cd dd : Nat) (S : cS) (h : k_L_isMerged_89 post dp mc ms R77 R89 x0 x2 x3 x5 x6 x10 x12 x13 x14 x15 cd dd S) : cG p l e (cRm 13 mc ms 310) s m args below meth c A D Y 16 (MQ below (cQi post D Y A) args s mc ms A) cd dd 89 [(0, .ref x0), (2, .ref x2), (3, .ref x3), (5, .ref x5), (6, .ref x6), (10, .ref x10), (12, .int x12), (13, .int x13), (14, .int x14), (15, .int x15)] [] S := by
  unfold k_L_isMerged_89 at h
  refine cg_iload C 9 rfl dL_isMerged_89 ?_
  refine cg_aload_n C (i := 2) rfl 1 rfl dL_isMerged_91 ?_
  refine cg_aload C 3 rfl dL_isMerged_92 ?_
  refine cg_iload C 8 rfl dL_isMerged_94 ?_
  obtain ⟨hc_96, h⟩ := h
  refine cg_ialoadR C hc_96 dL_isMerged_96 ?_
  obtain ⟨hc_97, h⟩ := h
  refine cg_ialoadR C hc_97 dL_isMerged_97 ?_
  refine cg_icmp_ge C 151 (by decide) dL_isMerged_98 (fun c_ => ?_) (fun c_ => ?_)
  · have h := h.1 c_
    obtain ⟨x14_44, e_x14_44⟩ : ∃ z : Int32, z = x14 + nI 1 := ⟨_, rfl⟩
    have h := h x14_44 e_x14_44
    refine cg_iinc C (lv' := [(14, .int x14_44), (0, .ref x0), (2, .ref x2), (3, .ref x3), (5, .ref x5), (6, .ref x6), (10, .ref x10), (12, .int x12), (13, .int x13), (15, .int x15)]) 8 rfl (by rw [e_x14_44]; rfl) (Nat.le_of_ble_eq_true rfl) rfl dL_isMerged_151 ?_
    refine cg_goto C 77 (by decide) dL_isMerged_154 ?_
    exact cg_sub [1, 2, 3, 4, 5, 6, 7, 8, 0] rfl (hR77 x0 x2 x3 x5 x6 x10 x12 x13 x14_44 cd dd S h)
  · have h := h.2 c_
    refine cg_aload_n C (i := 3) rfl 2 rfl dL_isMerged_101 ?_
    refine cg_aload C 3 rfl dL_isMerged_102 ?_
    refine cg_iload C 8 rfl dL_isMerged_104 ?_
    obtain ⟨hc_106, h⟩ := h
    refine cg_ialoadR C hc_106 dL_isMerged_106 ?_
    obtain ⟨hc_107, h⟩ := h
    refine cg_ialoadR C hc_107 dL_isMerged_107 ?_
    refine cg_iload C 9 rfl dL_isMerged_108 ?_
    refine cg_ishr C dL_isMerged_110 ?_
    refine cg_iconst C (x := nI 1) rfl dL_isMerged_111 ?_
    refine cg_iand C dL_isMerged_112 ?_
    refine cg_iconst C (x := nI 1) rfl dL_isMerged_113 ?_
    refine cg_icmp_ne C 145 (by decide) dL_isMerged_114 (fun c_ => ?_) (fun c_ => ?_)
    · have h := h.1 c_
      exact cg_sub [0, 1, 2, 3, 4, 5, 6, 7, 8, 9] rfl (tb_L_isMerged_145 C hlt hR77 hR89 x0 x2 x3 x5 x6 x10 x12 x13 x14 x15 cd dd S h)
    · have h := h.2 c_
      refine cg_aload C 4 rfl dL_isMerged_117 ?_
      refine cg_aload C 5 rfl dL_isMerged_119 ?_
      refine cg_bipush C (x := nI 12) rfl dL_isMerged_121 ?_
      obtain ⟨hc_123, h⟩ := h
      refine cg_ialoadR C hc_123 dL_isMerged_123 ?_
      refine cg_bipush C (x := nI 16) rfl dL_isMerged_124 ?_
      refine cg_aload C 3 rfl dL_isMerged_126 ?_
      refine cg_iload C 8 rfl dL_isMerged_128 ?_
      obtain ⟨hc_130, h⟩ := h
      refine cg_ialoadR C hc_130 dL_isMerged_130 ?_
      refine cg_imul C dL_isMerged_131 ?_
      refine cg_iload C 9 rfl dL_isMerged_132 ?_
      refine cg_iadd C dL_isMerged_134 ?_
      obtain ⟨hc_135, h⟩ := h
      refine cg_iastoreR C hc_135 dL_isMerged_135 ?_
      refine cg_nm (fun S46 e_S46 => ?_)
      have h := h S46 e_S46
      refine cg_aload C 5 rfl dL_isMerged_136 ?_
      refine cg_bipush C (x := nI 12) rfl dL_isMerged_138 ?_
      refine cg_dup2 C rfl rfl dL_isMerged_140 ?_
      obtain ⟨hc_141, h⟩ := h
      refine cg_ialoadR C hc_141 dL_isMerged_141 ?_
      refine cg_iconst C (x := nI 1) rfl dL_isMerged_142 ?_
      refine cg_iadd C dL_isMerged_143 ?_
      obtain ⟨hc_144, h⟩ := h
      refine cg_iastoreR C hc_144 dL_isMerged_144 ?_
      refine cg_nm (fun S47 e_S47 => ?_)
      have h := h S47 e_S47
      exact cg_sub [0, 1, 2, 3, 4, 5, 6, 7, 8, 9] rfl (tb_L_isMerged_145 C hlt hR77 hR89 x0 x2 x3 x5 x6 x10 x12 x13 x14 x15 cd dd S47 h)
set_option maxRecDepth 20000 in
theorem tl_L_isMerged_89 {mc ms : Nat} (C : cC p s m args meth c cL_isMerged 16 (some .boolean) A D Y tp dp RL) (hlt : l.stackTraces = false) {post : Int32 → cS → Prop} {R77 : Nat → Nat → Nat → Nat → Nat → Nat → Int32 → Int32 → Int32 → Nat → Nat → cS → Prop} (hR77 : ∀ (x0 : Nat) (x2 : Nat) (x3 : Nat) (x5 : Nat) (x6 : Nat) (x10 : Nat) (x12 : Int32) (x13 : Int32) (x14 : Int32) (cd dd : Nat) (S : cS), R77 x0 x2 x3 x5 x6 x10 x12 x13 x14 cd dd S → cG p l e (cRm 13 mc ms 310) s m args below meth c A D Y 16 (MQ below (cQi post D Y A) args s mc ms A) cd dd 77 [(0, .ref x0), (2, .ref x2), (3, .ref x3), (5, .ref x5), (6, .ref x6), (10, .ref x10), (12, .int x12), (13, .int x13), (14, .int x14)] [] S) (x0 : Nat) (x2 : Nat) (x3 : Nat) (x5 : Nat) (x6 : Nat) (x10 : Nat) (x12 : Int32) (x13 : Int32) (x14 : Int32) (x15 : Int32) (cd dd : Nat) (S : cS) (h : k_L_isMerged_89L post dp mc ms R77 x0 x2 x3 x5 x6 x10 x12 x13 x14 x15 cd dd S) : cG p l e (cRm 13 mc ms 310) s m args below meth c A D Y 16 (MQ below (cQi post D Y A) args s mc ms A) cd dd 89 [(0, .ref x0), (2, .ref x2), (3, .ref x3), (5, .ref x5), (6, .ref x6), (10, .ref x10), (12, .int x12), (13, .int x13), (14, .int x14), (15, .int x15)] [] S :=
  h (fun y => cG p l e (cRm 13 mc ms 310) s m args below meth c A D Y 16 (MQ below (cQi post D Y A) args s mc ms A) (y.2.2.2.2.2.2.2.2.2.2.1) (y.2.2.2.2.2.2.2.2.2.2.2.1) 89 [(0, .ref (y.1)), (2, .ref (y.2.1)), (3, .ref (y.2.2.1)), (5, .ref (y.2.2.2.1)), (6, .ref (y.2.2.2.2.1)), (10, .ref (y.2.2.2.2.2.1)), (12, .int (y.2.2.2.2.2.2.1)), (13, .int (y.2.2.2.2.2.2.2.1)), (14, .int (y.2.2.2.2.2.2.2.2.1)), (15, .int (y.2.2.2.2.2.2.2.2.2.1))] [] (y.2.2.2.2.2.2.2.2.2.2.2.2)) (fun y hy => tb_L_isMerged_89 C hlt hR77 (fun b0 b1 b2 b3 b4 b5 b6 b7 b8 b9 b10 b11 S z => z) (y.1) (y.2.1) (y.2.2.1) (y.2.2.2.1) (y.2.2.2.2.1) (y.2.2.2.2.2.1) (y.2.2.2.2.2.2.1) (y.2.2.2.2.2.2.2.1) (y.2.2.2.2.2.2.2.2.1) (y.2.2.2.2.2.2.2.2.2.1) (y.2.2.2.2.2.2.2.2.2.2.1) (y.2.2.2.2.2.2.2.2.2.2.2.1) (y.2.2.2.2.2.2.2.2.2.2.2.2) hy)
set_option maxRecDepth 20000 in
theorem tb_L_isMerged_77 {mc ms : Nat} (C : cC p s m args meth c cL_isMerged 16 (some .boolean) A D Y tp dp RL) (hlt : l.stackTraces = false) {post : Int32 → cS → Prop} {R77 : Nat → Nat → Nat → Nat → Nat → Nat → Int32 → Int32 → Int32 → Nat → Nat → cS → Prop} (hR77 : ∀ (x0 : Nat) (x2 : Nat) (x3 : Nat) (x5 : Nat) (x6 : Nat) (x10 : Nat) (x12 : Int32) (x13 : Int32) (x14 : Int32) (cd dd : Nat) (S : cS), R77 x0 x2 x3 x5 x6 x10 x12 x13 x14 cd dd S → cG p l e (cRm 13 mc ms 310) s m args below meth c A D Y 16 (MQ below (cQi post D Y A) args s mc ms A) cd dd 77 [(0, .ref x0), (2, .ref x2), (3, .ref x3), (5, .ref x5), (6, .ref x6), (10, .ref x10), (12, .int x12), (13, .int x13), (14, .int x14)] [] S) (x0 : Nat) (x2 : Nat) (x3 : Nat) (x5 : Nat) (x6 : Nat) (x10 : Nat) (x12 : Int32) (x13 : Int32) (x14 : Int32) (cd dd : Nat) (S : cS) (h : k_L_isMerged_77 post dp mc ms R77 x0 x2 x3 x5 x6 x10 x12 x13 x14 cd dd S) : cG p l e (cRm 13 mc ms 310) s m args below meth c A D Y 16 (MQ below (cQi post D Y A) args s mc ms A) cd dd 77 [(0, .ref x0), (2, .ref x2), (3, .ref x3), (5, .ref x5), (6, .ref x6), (10, .ref x10), (12, .int x12), (13, .int x13), (14, .int x14)] [] S := by
  unfold k_L_isMerged_77 at h
  refine cg_iload C 8 rfl dL_isMerged_77 ?_
  refine cg_iload C 6 rfl dL_isMerged_79 ?_
  refine cg_iconst C (x := nI 3) rfl dL_isMerged_81 ?_
  refine cg_iadd C dL_isMerged_82 ?_
  refine cg_icmp_ge C 157 (by decide) dL_isMerged_83 (fun c_ => ?_) (fun c_ => ?_)
  · have h := h.1 c_
    exact cg_sub [0, 5, 7] rfl (tb_L_isMerged_157 C hlt  x0 x10 x13 cd dd S h)
  · have h := h.2 c_
    refine cg_iconst C (x := nI 0) rfl dL_isMerged_86 ?_
    refine cg_istore C (lv' := [(15, .int ((nI 0))), (0, .ref x0), (2, .ref x2), (3, .ref x3), (5, .ref x5), (6, .ref x6), (10, .ref x10), (12, .int x12), (13, .int x13), (14, .int x14)]) (Nat.le_of_ble_eq_true rfl) rfl dL_isMerged_87 ?_
    exact cg_sub [1, 2, 3, 4, 5, 6, 7, 8, 9, 0] rfl (tl_L_isMerged_89 C hlt hR77 x0 x2 x3 x5 x6 x10 x12 x13 x14 (((nI 0))) cd dd S h)
set_option maxRecDepth 20000 in
theorem tl_L_isMerged_77 {mc ms : Nat} (C : cC p s m args meth c cL_isMerged 16 (some .boolean) A D Y tp dp RL) (hlt : l.stackTraces = false) {post : Int32 → cS → Prop}   (x0 : Nat) (x2 : Nat) (x3 : Nat) (x5 : Nat) (x6 : Nat) (x10 : Nat) (x12 : Int32) (x13 : Int32) (x14 : Int32) (cd dd : Nat) (S : cS) (h : k_L_isMerged_77L post dp mc ms  x0 x2 x3 x5 x6 x10 x12 x13 x14 cd dd S) : cG p l e (cRm 13 mc ms 310) s m args below meth c A D Y 16 (MQ below (cQi post D Y A) args s mc ms A) cd dd 77 [(0, .ref x0), (2, .ref x2), (3, .ref x3), (5, .ref x5), (6, .ref x6), (10, .ref x10), (12, .int x12), (13, .int x13), (14, .int x14)] [] S :=
  h (fun y => cG p l e (cRm 13 mc ms 310) s m args below meth c A D Y 16 (MQ below (cQi post D Y A) args s mc ms A) (y.2.2.2.2.2.2.2.2.2.1) (y.2.2.2.2.2.2.2.2.2.2.1) 77 [(0, .ref (y.1)), (2, .ref (y.2.1)), (3, .ref (y.2.2.1)), (5, .ref (y.2.2.2.1)), (6, .ref (y.2.2.2.2.1)), (10, .ref (y.2.2.2.2.2.1)), (12, .int (y.2.2.2.2.2.2.1)), (13, .int (y.2.2.2.2.2.2.2.1)), (14, .int (y.2.2.2.2.2.2.2.2.1))] [] (y.2.2.2.2.2.2.2.2.2.2.2)) (fun y hy => tb_L_isMerged_77 C hlt  (fun b0 b1 b2 b3 b4 b5 b6 b7 b8 b9 b10 S z => z) (y.1) (y.2.1) (y.2.2.1) (y.2.2.2.1) (y.2.2.2.2.1) (y.2.2.2.2.2.1) (y.2.2.2.2.2.2.1) (y.2.2.2.2.2.2.2.1) (y.2.2.2.2.2.2.2.2.1) (y.2.2.2.2.2.2.2.2.2.1) (y.2.2.2.2.2.2.2.2.2.2.1) (y.2.2.2.2.2.2.2.2.2.2.2) hy)
set_option maxRecDepth 20000 in
theorem tb_L_isMerged_41 {mc ms : Nat} (C : cC p s m args meth c cL_isMerged 16 (some .boolean) A D Y tp dp RL) (hlt : l.stackTraces = false) {post : Int32 → cS → Prop}   (x0 : Nat) (x2 : Nat) (x3 : Nat) (x5 : Nat) (x6 : Nat) (x10 : Nat) (x12 : Int32) (t0 : Int32) (cd dd : Nat) (S : cS) (h : k_L_isMerged_41 post dp mc ms  x0 x2 x3 x5 x6 x10 x12 t0 cd dd S) : cG p l e (cRm 13 mc ms 310) s m args below meth c A D Y 16 (MQ below (cQi post D Y A) args s mc ms A) cd dd 41 [(0, .ref x0), (2, .ref x2), (3, .ref x3), (5, .ref x5), (6, .ref x6), (10, .ref x10), (12, .int x12)] [.int t0] S := by
  unfold k_L_isMerged_41 at h
  refine cg_istore C (lv' := [(13, .int t0), (0, .ref x0), (2, .ref x2), (3, .ref x3), (5, .ref x5), (6, .ref x6), (10, .ref x10), (12, .int x12)]) (Nat.le_of_ble_eq_true rfl) rfl dL_isMerged_41 ?_
  refine cg_iload C 0 rfl dL_isMerged_43 ?_
  refine cg_if_eq C 157 (by decide) dL_isMerged_45 (fun c_ => ?_) (fun c_ => ?_)
  · have h := h.1 c_
    exact cg_sub [1, 6, 0] rfl (tb_L_isMerged_157 C hlt  x0 x10 t0 cd dd S h)
  · have h := h.2 c_
    refine cg_aload C 6 rfl dL_isMerged_48 ?_
    refine cg_bipush C (x := nI 9) rfl dL_isMerged_50 ?_
    refine cg_iconst C (x := nI 1) rfl dL_isMerged_52 ?_
    obtain ⟨hc_53, h⟩ := h
    refine cg_iastoreR C hc_53 dL_isMerged_53 ?_
    refine cg_nm (fun S40 e_S40 => ?_)
    have h := h S40 e_S40
    refine cg_aload C 6 rfl dL_isMerged_54 ?_
    refine cg_bipush C (x := nI 10) rfl dL_isMerged_56 ?_
    refine cg_iload C 7 rfl dL_isMerged_58 ?_
    obtain ⟨hc_60, h⟩ := h
    refine cg_iastoreR C hc_60 dL_isMerged_60 ?_
    refine cg_nm (fun S41 e_S41 => ?_)
    have h := h S41 e_S41
    refine cg_aload C 6 rfl dL_isMerged_61 ?_
    refine cg_bipush C (x := nI 11) rfl dL_isMerged_63 ?_
    refine cg_iconst C (x := nI 0) rfl dL_isMerged_65 ?_
    obtain ⟨hc_66, h⟩ := h
    refine cg_iastoreR C hc_66 dL_isMerged_66 ?_
    refine cg_nm (fun S42 e_S42 => ?_)
    have h := h S42 e_S42
    refine cg_aload C 6 rfl dL_isMerged_67 ?_
    refine cg_bipush C (x := nI 12) rfl dL_isMerged_69 ?_
    refine cg_iconst C (x := nI 0) rfl dL_isMerged_71 ?_
    obtain ⟨hc_72, h⟩ := h
    refine cg_iastoreR C hc_72 dL_isMerged_72 ?_
    refine cg_nm (fun S43 e_S43 => ?_)
    have h := h S43 e_S43
    refine cg_iload C 7 rfl dL_isMerged_73 ?_
    refine cg_istore C (lv' := [(14, .int x12), (13, .int t0), (0, .ref x0), (2, .ref x2), (3, .ref x3), (5, .ref x5), (6, .ref x6), (10, .ref x10), (12, .int x12)]) (Nat.le_of_ble_eq_true rfl) rfl dL_isMerged_75 ?_
    exact cg_sub [2, 3, 4, 5, 6, 7, 8, 1, 0] rfl (tl_L_isMerged_77 C hlt  x0 x2 x3 x5 x6 x10 x12 t0 x12 cd dd S43 h)
set_option maxRecDepth 20000 in
theorem tb_L_isMerged_40 {mc ms : Nat} (C : cC p s m args meth c cL_isMerged 16 (some .boolean) A D Y tp dp RL) (hlt : l.stackTraces = false) {post : Int32 → cS → Prop}   (x0 : Nat) (x2 : Nat) (x3 : Nat) (x5 : Nat) (x6 : Nat) (x10 : Nat) (x12 : Int32) (cd dd : Nat) (S : cS) (h : k_L_isMerged_40 post dp mc ms  x0 x2 x3 x5 x6 x10 x12 cd dd S) : cG p l e (cRm 13 mc ms 310) s m args below meth c A D Y 16 (MQ below (cQi post D Y A) args s mc ms A) cd dd 40 [(0, .ref x0), (2, .ref x2), (3, .ref x3), (5, .ref x5), (6, .ref x6), (10, .ref x10), (12, .int x12)] [] S := by
  unfold k_L_isMerged_40 at h
  refine cg_iconst C (x := nI 0) rfl dL_isMerged_40 ?_
  exact cg_sub [0, 1, 2, 3, 4, 5, 6] rfl (tb_L_isMerged_41 C hlt  x0 x2 x3 x5 x6 x10 x12 ((nI 0)) cd dd S h)
end S_L_isMerged
set_option maxHeartbeats 1000000 in
set_option maxRecDepth 20000 in
theorem t_L_isMerged (l : Launch) (hlt : l.stackTraces = false) (mc ms : Nat) (x0 : Nat) (x1 : Nat) (x2 : Nat) (x3 : Nat) (x4 : Nat) (x5 : Nat) (x6 : Nat) (x7 : Nat) (x8 : Nat) (x9 : Nat) (x10 : Nat) (x11 : Int32) (S : cS) (dp : Nat) {P : Int32 → cS → Prop} (h : k_L_isMerged P dp mc ms x0 x1 x2 x3 x4 x5 x6 x7 x8 x9 x10 x11 S) : cMet (cQi P) l yL_isMerged cL_isMerged 16 (some .boolean) 13 mc ms 310 [.ref x0, .ref x1, .ref x2, .ref x3, .ref x4, .ref x5, .ref x6, .ref x7, .ref x8, .ref x9, .ref x10, .int x11] S dp := by
  intro D Y tp sz
  refine cg_body (by decide +kernel) (Nat.le_of_ble_eq_true rfl) ?_
  intro p e s m args below meth c C
  generalize va_A (cWd Y S) sz = A at C ⊢
  have C : cC p s m args meth c cL_isMerged 16 (some .boolean) A D Y tp dp RL := C
  refine cg_lv (lv' := [(0, .ref x0), (1, .ref x1), (2, .ref x2), (3, .ref x3), (4, .ref x4), (5, .ref x5), (6, .ref x6), (7, .ref x7), (8, .ref x8), (9, .ref x9), (10, .ref x10), (11, .int x11)]) rfl ?_
  unfold k_L_isMerged at h
  refine cg_iload C 11 rfl dL_isMerged_0 ?_
  refine cg_if_ne C 186 (by decide) dL_isMerged_2 (fun c_ => ?_) (fun c_ => ?_)
  · have h := h.1 c_
    refine cg_aload C 10 rfl dL_isMerged_186 ?_
    refine cg_bipush C (x := nI 6) rfl dL_isMerged_188 ?_
    obtain ⟨hc_190, h⟩ := h
    refine cg_ialoadR C hc_190 dL_isMerged_190 ?_
    refine cg_iconst C (x := nI 1) rfl dL_isMerged_191 ?_
    refine cg_icmp_eq C 203 (by decide) dL_isMerged_192 (fun c_ => ?_) (fun c_ => ?_)
    · have h := h.1 c_
      exact cg_sub [0, 11] rfl (tb_L_isMerged_203 C hlt  x0 x11 0 0 S h)
    · have h := h.2 c_
      refine cg_aload C 10 rfl dL_isMerged_195 ?_
      refine cg_bipush C (x := nI 9) rfl dL_isMerged_197 ?_
      obtain ⟨hc_199, h⟩ := h
      refine cg_ialoadR C hc_199 dL_isMerged_199 ?_
      refine cg_if_ne C 229 (by decide) dL_isMerged_200 (fun c_ => ?_) (fun c_ => ?_)
      · have h := h.1 c_
        refine cg_iload C 11 rfl dL_isMerged_229 ?_
        refine cg_iconst C (x := nI 2) rfl dL_isMerged_231 ?_
        refine cg_icmp_ne C 260 (by decide) dL_isMerged_232 (fun c_ => ?_) (fun c_ => ?_)
        · have h := h.1 c_
          refine cg_aload C 10 rfl dL_isMerged_260 ?_
          refine cg_aload C 7 rfl dL_isMerged_262 ?_
          refine cg_aload C 8 rfl dL_isMerged_264 ?_
          refine cg_aload C 9 rfl dL_isMerged_266 ?_
          obtain ⟨hb_268, h⟩ := h
          refine cg_callsi C (t_L_writes l x10 x7 x8 x9 S dp h) cc_L_57 rfl ⟨by decide, by decide⟩ hb_268 rfl (Nat.le_of_ble_eq_true rfl) dL_isMerged_268 (fun r_4 S_4 h => ?_)
          simp only [Nat.add_zero]
          refine cg_if_ne C 290 (by decide) dL_isMerged_271 (fun c_ => ?_) (fun c_ => ?_)
          · have h := h.1 c_
            refine cg_aload C 10 rfl dL_isMerged_290 ?_
            refine cg_bipush C (x := nI 11) rfl dL_isMerged_292 ?_
            obtain ⟨hc_294, h⟩ := h
            refine cg_ialoadR C hc_294 dL_isMerged_294 ?_
            refine cg_aload C 10 rfl dL_isMerged_295 ?_
            refine cg_bipush C (x := nI 12) rfl dL_isMerged_297 ?_
            obtain ⟨hc_299, h⟩ := h
            refine cg_ialoadR C hc_299 dL_isMerged_299 ?_
            refine cg_icmp_ge C 337 (by decide) dL_isMerged_300 (fun c_ => ?_) (fun c_ => ?_)
            · have h := h.1 c_
              refine cg_aload C 10 rfl dL_isMerged_337 ?_
              refine cg_bipush C (x := nI 10) rfl dL_isMerged_339 ?_
              obtain ⟨hc_341, h⟩ := h
              refine cg_ialoadR C hc_341 dL_isMerged_341 ?_
              refine cg_nmI (fun x12_5 e_x12_5 => ?_)
              have h := h x12_5 e_x12_5
              refine cg_istore C (lv' := [(12, .int x12_5), (0, .ref x0), (1, .ref x1), (2, .ref x2), (3, .ref x3), (4, .ref x4), (5, .ref x5), (6, .ref x6), (7, .ref x7), (8, .ref x8), (9, .ref x9), (10, .ref x10), (11, .int x11)]) (Nat.le_of_ble_eq_true rfl) rfl dL_isMerged_342 ?_
              refine cg_aload C 11 rfl dL_isMerged_344 ?_
              refine cg_iconst C (x := nI 2) rfl dL_isMerged_346 ?_
              obtain ⟨hc_347, h⟩ := h
              refine cg_ialoadR C hc_347 dL_isMerged_347 ?_
              refine cg_nmI (fun x13_6 e_x13_6 => ?_)
              have h := h x13_6 e_x13_6
              refine cg_istore C (lv' := [(13, .int x13_6), (12, .int x12_5), (0, .ref x0), (1, .ref x1), (2, .ref x2), (3, .ref x3), (4, .ref x4), (5, .ref x5), (6, .ref x6), (7, .ref x7), (8, .ref x8), (9, .ref x9), (10, .ref x10), (11, .int x11)]) (Nat.le_of_ble_eq_true rfl) rfl dL_isMerged_348 ?_
              refine cg_aload C 12 rfl dL_isMerged_350 ?_
              refine cg_bipush C (x := nI 12) rfl dL_isMerged_352 ?_
              obtain ⟨hc_354, h⟩ := h
              refine cg_ialoadR C hc_354 dL_isMerged_354 ?_
              refine cg_if_ne C 362 (by decide) dL_isMerged_355 (fun c_ => ?_) (fun c_ => ?_)
              · have h := h.1 c_
                refine cg_iconst C (x := nI 2) rfl dL_isMerged_362 ?_
                exact cg_sub [2, 3, 4, 5, 6, 7, 8, 12, 1, 0] rfl (tb_L_isMerged_363 C hlt  x0 x1 x2 x3 x4 x5 x6 x10 x12_5 x13_6 ((nI 2)) 0 0 S_4 h)
              · have h := h.2 c_
                refine cg_iconst C (x := nI 3) rfl dL_isMerged_358 ?_
                refine cg_goto C 363 (by decide) dL_isMerged_359 ?_
                exact cg_sub [2, 3, 4, 5, 6, 7, 8, 12, 1, 0] rfl (tb_L_isMerged_363 C hlt  x0 x1 x2 x3 x4 x5 x6 x10 x12_5 x13_6 ((nI 3)) 0 0 S_4 h)
            · have h := h.2 c_
              refine cg_aload C 10 rfl dL_isMerged_303 ?_
              refine cg_bipush C (x := nI 11) rfl dL_isMerged_305 ?_
              refine cg_dup2 C rfl rfl dL_isMerged_307 ?_
              obtain ⟨hc_308, h⟩ := h
              refine cg_ialoadR C hc_308 dL_isMerged_308 ?_
              refine cg_iconst C (x := nI 1) rfl dL_isMerged_309 ?_
              refine cg_iadd C dL_isMerged_310 ?_
              obtain ⟨hc_311, h⟩ := h
              refine cg_iastoreR C hc_311 dL_isMerged_311 ?_
              refine cg_nm (fun S25 e_S25 => ?_)
              have h := h S25 e_S25
              refine cg_aload_n C (i := 0) rfl 0 rfl dL_isMerged_312 ?_
              refine cg_iconst C (x := nI 2) rfl dL_isMerged_313 ?_
              obtain ⟨mc26, ms27, hm_1, hm_2, h⟩ := h
              refine cg_callsWi C (tw_L_did l hlt mc26 ms27 x0 ((nI 2)) S25 dp h) cc_L_205 rfl ⟨by decide, by decide⟩ ⟨hm_1, hm_2⟩ rfl (Nat.le_of_ble_eq_true rfl) dL_isMerged_314 (fun r_28 S_28 h => ?_)
              refine cg_aload C 10 rfl dL_isMerged_317 ?_
              refine cg_bipush C (x := nI 12) rfl dL_isMerged_319 ?_
              obtain ⟨hc_321, h⟩ := h
              refine cg_ialoadR C hc_321 dL_isMerged_321 ?_
              refine cg_aload C 10 rfl dL_isMerged_322 ?_
              refine cg_bipush C (x := nI 11) rfl dL_isMerged_324 ?_
              obtain ⟨hc_326, h⟩ := h
              refine cg_ialoadR C hc_326 dL_isMerged_326 ?_
              refine cg_isub C dL_isMerged_327 ?_
              refine cg_icmp_ne C 335 (by decide) dL_isMerged_328 (fun c_ => ?_) (fun c_ => ?_)
              · have h := h.1 c_
                refine cg_iconst C (x := nI 0) rfl dL_isMerged_335 ?_
                obtain ⟨hb_336, h⟩ := h
                refine cg_cast (.int (bI false)) rfl ?_
                exact cg_zret C (bI_nar _) h dL_isMerged_336 hb_336.1 hb_336.2
              · have h := h.2 c_
                refine cg_iconst C (x := nI 1) rfl dL_isMerged_331 ?_
                refine cg_goto C 336 (by decide) dL_isMerged_332 ?_
                obtain ⟨hb_336, h⟩ := h
                refine cg_cast (.int (bI true)) rfl ?_
                exact cg_zret C (bI_nar _) h dL_isMerged_336 hb_336.1 hb_336.2
          · have h := h.2 c_
            refine cg_aload_n C (i := 0) rfl 0 rfl dL_isMerged_274 ?_
            refine cg_iconst C (x := nI 2) rfl dL_isMerged_275 ?_
            obtain ⟨mc29, ms30, hm_1, hm_2, h⟩ := h
            refine cg_callsWi C (tw_L_did l hlt mc29 ms30 x0 ((nI 2)) S_4 dp h) cc_L_205 rfl ⟨by decide, by decide⟩ ⟨hm_1, hm_2⟩ rfl (Nat.le_of_ble_eq_true rfl) dL_isMerged_276 (fun r_31 S_31 h => ?_)
            refine cg_bipush C (x := (-2)) rfl dL_isMerged_279 ?_
            refine cg_icmp_ne C 288 (by decide) dL_isMerged_281 (fun c_ => ?_) (fun c_ => ?_)
            · have h := h.1 c_
              refine cg_iconst C (x := nI 0) rfl dL_isMerged_288 ?_
              obtain ⟨hb_289, h⟩ := h
              refine cg_cast (.int (bI false)) rfl ?_
              exact cg_zret C (bI_nar _) h dL_isMerged_289 hb_289.1 hb_289.2
            · have h := h.2 c_
              refine cg_iconst C (x := nI 1) rfl dL_isMerged_284 ?_
              refine cg_goto C 289 (by decide) dL_isMerged_285 ?_
              obtain ⟨hb_289, h⟩ := h
              refine cg_cast (.int (bI true)) rfl ?_
              exact cg_zret C (bI_nar _) h dL_isMerged_289 hb_289.1 hb_289.2
        · have h := h.2 c_
          refine cg_aload C 10 rfl dL_isMerged_235 ?_
          refine cg_bipush C (x := nI 9) rfl dL_isMerged_237 ?_
          refine cg_iconst C (x := nI 0) rfl dL_isMerged_239 ?_
          obtain ⟨hc_240, h⟩ := h
          refine cg_iastoreR C hc_240 dL_isMerged_240 ?_
          refine cg_nm (fun S32 e_S32 => ?_)
          have h := h S32 e_S32
          refine cg_aload_n C (i := 0) rfl 0 rfl dL_isMerged_241 ?_
          refine cg_iconst C (x := nI 3) rfl dL_isMerged_242 ?_
          obtain ⟨mc33, ms34, hm_1, hm_2, h⟩ := h
          refine cg_callsWi C (tw_L_did l hlt mc33 ms34 x0 ((nI 3)) S32 dp h) cc_L_205 rfl ⟨by decide, by decide⟩ ⟨hm_1, hm_2⟩ rfl (Nat.le_of_ble_eq_true rfl) dL_isMerged_243 (fun r_35 S_35 h => ?_)
          refine cg_aload C 10 rfl dL_isMerged_246 ?_
          refine cg_bipush C (x := nI 11) rfl dL_isMerged_248 ?_
          obtain ⟨hc_250, h⟩ := h
          refine cg_ialoadR C hc_250 dL_isMerged_250 ?_
          refine cg_icmp_ne C 258 (by decide) dL_isMerged_251 (fun c_ => ?_) (fun c_ => ?_)
          · have h := h.1 c_
            refine cg_iconst C (x := nI 0) rfl dL_isMerged_258 ?_
            obtain ⟨hb_259, h⟩ := h
            refine cg_cast (.int (bI false)) rfl ?_
            exact cg_zret C (bI_nar _) h dL_isMerged_259 hb_259.1 hb_259.2
          · have h := h.2 c_
            refine cg_iconst C (x := nI 1) rfl dL_isMerged_254 ?_
            refine cg_goto C 259 (by decide) dL_isMerged_255 ?_
            obtain ⟨hb_259, h⟩ := h
            refine cg_cast (.int (bI true)) rfl ?_
            exact cg_zret C (bI_nar _) h dL_isMerged_259 hb_259.1 hb_259.2
      · have h := h.2 c_
        exact cg_sub [0, 11] rfl (tb_L_isMerged_203 C hlt  x0 x11 0 0 S h)
  · have h := h.2 c_
    refine cg_aload_n C (i := 2) rfl 2 rfl dL_isMerged_5 ?_
    refine cg_aload C 5 rfl dL_isMerged_6 ?_
    refine cg_aload C 10 rfl dL_isMerged_8 ?_
    obtain ⟨hb_10, h⟩ := h
    refine cg_callsi C (t_L_due l x2 x5 x10 S dp h) cc_L_209 rfl ⟨by decide, by decide⟩ hb_10 rfl (Nat.le_of_ble_eq_true rfl) dL_isMerged_10 (fun r_36 S_36 h => ?_)
    simp only [Nat.add_zero]
    refine cg_istore C (lv' := [(12, .int r_36), (0, .ref x0), (1, .ref x1), (2, .ref x2), (3, .ref x3), (4, .ref x4), (5, .ref x5), (6, .ref x6), (7, .ref x7), (8, .ref x8), (9, .ref x9), (10, .ref x10), (11, .int x11)]) (Nat.le_of_ble_eq_true rfl) rfl dL_isMerged_13 ?_
    refine cg_aload C 11 rfl dL_isMerged_15 ?_
    refine cg_bipush C (x := nI 6) rfl dL_isMerged_17 ?_
    obtain ⟨hc_19, h⟩ := h
    refine cg_ialoadR C hc_19 dL_isMerged_19 ?_
    refine cg_if_ne C 40 (by decide) dL_isMerged_20 (fun c_ => ?_) (fun c_ => ?_)
    · have h := h.1 c_
      exact cg_sub [1, 3, 4, 6, 7, 11, 0] rfl (tb_L_isMerged_40 C hlt  x0 x2 x3 x5 x6 x10 r_36 0 0 S_36 h)
    · have h := h.2 c_
      refine cg_iload C 0 rfl dL_isMerged_23 ?_
      refine cg_if_lt C 40 (by decide) dL_isMerged_25 (fun c_ => ?_) (fun c_ => ?_)
      · have h := h.1 c_
        exact cg_sub [1, 3, 4, 6, 7, 11, 0] rfl (tb_L_isMerged_40 C hlt  x0 x2 x3 x5 x6 x10 r_36 0 0 S_36 h)
      · have h := h.2 c_
        refine cg_aload C 11 rfl dL_isMerged_28 ?_
        refine cg_bipush C (x := nI 9) rfl dL_isMerged_30 ?_
        obtain ⟨hc_32, h⟩ := h
        refine cg_ialoadR C hc_32 dL_isMerged_32 ?_
        refine cg_if_ne C 40 (by decide) dL_isMerged_33 (fun c_ => ?_) (fun c_ => ?_)
        · have h := h.1 c_
          exact cg_sub [1, 3, 4, 6, 7, 11, 0] rfl (tb_L_isMerged_40 C hlt  x0 x2 x3 x5 x6 x10 r_36 0 0 S_36 h)
        · have h := h.2 c_
          refine cg_iconst C (x := nI 1) rfl dL_isMerged_36 ?_
          refine cg_goto C 41 (by decide) dL_isMerged_37 ?_
          exact cg_sub [1, 3, 4, 6, 7, 11, 0] rfl (tb_L_isMerged_41 C hlt  x0 x2 x3 x5 x6 x10 r_36 ((nI 1)) 0 0 S_36 h)
section S_L_copy
variable {p : Program} {l : Launch} {e : Env} {s : State} {m : MethodId} {args : Array Value} {below : List Frame} {meth : Method} {c : Code} {A : Nat → Prop} {D : va_G} {Y : cY} {tp dp : Nat}
set_option maxRecDepth 20000 in
theorem tb_L_copy_7 {mc ms : Nat} (C : cC p s m args meth c cL_copy 3 (some (.array .int)) A D Y tp dp RL) {post : Nat → cS → Prop} {R7 : Nat → Nat → Int32 → Nat → Nat → cS → Prop} (hR7 : ∀ (x0 : Nat) (x1 : Nat) (x2 : Int32) (cd dd : Nat) (S : cS), R7 x0 x1 x2 cd dd S → cG p l e (cRm 0 mc ms 0) s m args below meth c A D Y 3 (MQ below (cQr post D Y A) args s mc ms A) cd dd 7 [(0, .ref x0), (1, .ref x1), (2, .int x2)] [] S) (x0 : Nat) (x1 : Nat) (x2 : Int32) (cd dd : Nat) (S : cS) (h : k_L_copy_7 post dp mc ms R7 x0 x1 x2 cd dd S) : cG p l e (cRm 0 mc ms 0) s m args below meth c A D Y 3 (MQ below (cQr post D Y A) args s mc ms A) cd dd 7 [(0, .ref x0), (1, .ref x1), (2, .int x2)] [] S := by
  unfold k_L_copy_7 at h
  refine cg_iload_n C (i := 2) rfl 2 rfl dL_copy_7 ?_
  refine cg_bipush C (x := nI 64) rfl dL_copy_8 ?_
  refine cg_icmp_ge C 25 (by decide) dL_copy_10 (fun c_ => ?_) (fun c_ => ?_)
  · have h := h.1 c_
    refine cg_aload_n C (i := 1) rfl 1 rfl dL_copy_25 ?_
    obtain ⟨hb_26, h⟩ := h
    exact cg_aret C rfl (by first | exact Or.inl ⟨_, rfl⟩ | exact Or.inr ⟨_, rfl⟩) h dL_copy_26 hb_26.1 hb_26.2
  · have h := h.2 c_
    refine cg_aload_n C (i := 1) rfl 1 rfl dL_copy_13 ?_
    refine cg_iload_n C (i := 2) rfl 2 rfl dL_copy_14 ?_
    refine cg_aload_n C (i := 0) rfl 0 rfl dL_copy_15 ?_
    refine cg_iload_n C (i := 2) rfl 2 rfl dL_copy_16 ?_
    obtain ⟨hc_17, h⟩ := h
    refine cg_ialoadR C hc_17 dL_copy_17 ?_
    obtain ⟨hc_18, h⟩ := h
    refine cg_iastoreR C hc_18 dL_copy_18 ?_
    refine cg_nm (fun S4 e_S4 => ?_)
    have h := h S4 e_S4
    obtain ⟨x2_5, e_x2_5⟩ : ∃ z : Int32, z = x2 + nI 1 := ⟨_, rfl⟩
    have h := h x2_5 e_x2_5
    refine cg_iinc C (lv' := [(2, .int x2_5), (0, .ref x0), (1, .ref x1)]) 2 rfl (by rw [e_x2_5]; rfl) (Nat.le_of_ble_eq_true rfl) rfl dL_copy_19 ?_
    refine cg_goto C 7 (by decide) dL_copy_22 ?_
    exact cg_sub [1, 2, 0] rfl (hR7 x0 x1 x2_5 cd dd S4 h)
set_option maxRecDepth 20000 in
theorem tl_L_copy_7 {mc ms : Nat} (C : cC p s m args meth c cL_copy 3 (some (.array .int)) A D Y tp dp RL) {post : Nat → cS → Prop}   (x0 : Nat) (x1 : Nat) (x2 : Int32) (cd dd : Nat) (S : cS) (h : k_L_copy_7L post dp mc ms  x0 x1 x2 cd dd S) : cG p l e (cRm 0 mc ms 0) s m args below meth c A D Y 3 (MQ below (cQr post D Y A) args s mc ms A) cd dd 7 [(0, .ref x0), (1, .ref x1), (2, .int x2)] [] S :=
  h (fun y => cG p l e (cRm 0 mc ms 0) s m args below meth c A D Y 3 (MQ below (cQr post D Y A) args s mc ms A) (y.2.2.2.1) (y.2.2.2.2.1) 7 [(0, .ref (y.1)), (1, .ref (y.2.1)), (2, .int (y.2.2.1))] [] (y.2.2.2.2.2)) (fun y hy => tb_L_copy_7 C   (fun b0 b1 b2 b3 b4 S z => z) (y.1) (y.2.1) (y.2.2.1) (y.2.2.2.1) (y.2.2.2.2.1) (y.2.2.2.2.2) hy)
end S_L_copy
set_option maxHeartbeats 1000000 in
set_option maxRecDepth 20000 in
theorem t_L_copy (l : Launch) (mc ms : Nat) (x0 : Nat) (S : cS) (dp : Nat) {P : Nat → cS → Prop} (h : k_L_copy P dp mc ms x0 S) : cMet (cQr P) l yL_copy cL_copy 3 (some (.array .int)) 0 mc ms 0 [.ref x0] S dp := by
  intro D Y tp sz
  refine cg_body (by decide +kernel) (Nat.le_of_ble_eq_true rfl) ?_
  intro p e s m args below meth c C
  generalize va_A (cWd Y S) sz = A at C ⊢
  have C : cC p s m args meth c cL_copy 3 (some (.array .int)) A D Y tp dp RL := C
  refine cg_lv (lv' := [(0, .ref x0)]) rfl ?_
  unfold k_L_copy at h
  refine cg_bipush C (x := nI 64) rfl dL_copy_0 ?_
  obtain ⟨n1, hn_1, hn_2, hn_3, hn_4, h⟩ := h
  refine cg_cast (.int (nI n1)) (congrArg Value.int hn_1) ?_
  refine cg_newI C n1 hn_2 ca_int hn_3 hn_4 dL_copy_2 (fun q2 hf_q2 => ?_)
  have h := h q2 hf_q2
  refine cg_nm (fun S3 e_S3 => ?_)
  have h := h S3 e_S3
  refine cg_astore_n (lv' := [(1, .ref q2), (0, .ref x0)]) C (i := 1) rfl (Nat.le_of_ble_eq_true rfl) rfl dL_copy_4 ?_
  refine cg_iconst C (x := nI 0) rfl dL_copy_5 ?_
  refine cg_istore_n C (i := 2) (lv' := [(2, .int ((nI 0))), (1, .ref q2), (0, .ref x0)]) rfl (Nat.le_of_ble_eq_true rfl) rfl dL_copy_6 ?_
  exact cg_sub [2, 1, 0] rfl (tl_L_copy_7 C   x0 q2 (((nI 0))) (0 + 1) (0 + n1) S3 h)
section S_L_isCommitted
variable {p : Program} {l : Launch} {e : Env} {s : State} {m : MethodId} {args : Array Value} {below : List Frame} {meth : Method} {c : Code} {A : Nat → Prop} {D : va_G} {Y : cY} {tp dp : Nat}
set_option maxRecDepth 20000 in
theorem tb_L_isCommitted_276 {mc ms : Nat} (C : cC p s m args meth c cL_isCommitted 17 (some .boolean) A D Y tp dp RL) (hlt : l.stackTraces = false) {post : Int32 → cS → Prop}   (x0 : Nat) (cd dd : Nat) (S : cS) (h : k_L_isCommitted_276 post dp mc ms  x0 cd dd S) : cG p l e (cRm 13 mc ms 310) s m args below meth c A D Y 17 (MQ below (cQi post D Y A) args s mc ms A) cd dd 276 [(0, .ref x0)] [] S := by
  unfold k_L_isCommitted_276 at h
  refine cg_aload_n C (i := 0) rfl 0 rfl dL_isCommitted_276 ?_
  refine cg_iconst C (x := nI 5) rfl dL_isCommitted_277 ?_
  obtain ⟨mc1, ms2, hm_1, hm_2, h⟩ := h
  refine cg_callsWi C (tw_L_did l hlt mc1 ms2 x0 ((nI 5)) S dp h) cc_L_205 rfl ⟨by decide, by decide⟩ ⟨hm_1, hm_2⟩ rfl (Nat.le_of_ble_eq_true rfl) dL_isCommitted_278 (fun r_3 S_3 h => ?_)
  refine cg_bipush C (x := (-7)) rfl dL_isCommitted_281 ?_
  refine cg_icmp_ne C 290 (by decide) dL_isCommitted_283 (fun c_ => ?_) (fun c_ => ?_)
  · have h := h.1 c_
    refine cg_iconst C (x := nI 0) rfl dL_isCommitted_290 ?_
    obtain ⟨hb_291, h⟩ := h
    refine cg_cast (.int (bI false)) rfl ?_
    exact cg_zret C (bI_nar _) h dL_isCommitted_291 hb_291.1 hb_291.2
  · have h := h.2 c_
    refine cg_iconst C (x := nI 1) rfl dL_isCommitted_286 ?_
    refine cg_goto C 291 (by decide) dL_isCommitted_287 ?_
    obtain ⟨hb_291, h⟩ := h
    refine cg_cast (.int (bI true)) rfl ?_
    exact cg_zret C (bI_nar _) h dL_isCommitted_291 hb_291.1 hb_291.2
set_option maxRecDepth 20000 in
theorem tb_L_isCommitted_442 {mc ms : Nat} (C : cC p s m args meth c cL_isCommitted 17 (some .boolean) A D Y tp dp RL) (hlt : l.stackTraces = false) {post : Int32 → cS → Prop}   (t0 : Int32) (t1 : Int32) (cd dd : Nat) (S : cS) (h : k_L_isCommitted_442 post dp mc ms  t0 t1 cd dd S) : cG p l e (cRm 13 mc ms 310) s m args below meth c A D Y 17 (MQ below (cQi post D Y A) args s mc ms A) cd dd 442 [] [.int t0, .int t1] S := by
  unfold k_L_isCommitted_442 at h
  refine cg_icmp_ne C 449 (by decide) dL_isCommitted_442 (fun c_ => ?_) (fun c_ => ?_)
  · have h := h.1 c_
    refine cg_iconst C (x := nI 0) rfl dL_isCommitted_449 ?_
    obtain ⟨hb_450, h⟩ := h
    refine cg_cast (.int (bI false)) rfl ?_
    exact cg_zret C (bI_nar _) h dL_isCommitted_450 hb_450.1 hb_450.2
  · have h := h.2 c_
    refine cg_iconst C (x := nI 1) rfl dL_isCommitted_445 ?_
    refine cg_goto C 450 (by decide) dL_isCommitted_446 ?_
    obtain ⟨hb_450, h⟩ := h
    refine cg_cast (.int (bI true)) rfl ?_
    exact cg_zret C (bI_nar _) h dL_isCommitted_450 hb_450.1 hb_450.2
set_option maxRecDepth 20000 in
theorem tb_L_isCommitted_417 {mc ms : Nat} (C : cC p s m args meth c cL_isCommitted 17 (some .boolean) A D Y tp dp RL) (hlt : l.stackTraces = false) {post : Int32 → cS → Prop}   (x0 : Nat) (x9 : Nat) (x12 : Nat) (x15 : Int32) (cd dd : Nat) (S : cS) (h : k_L_isCommitted_417 post dp mc ms  x0 x9 x12 x15 cd dd S) : cG p l e (cRm 13 mc ms 310) s m args below meth c A D Y 17 (MQ below (cQi post D Y A) args s mc ms A) cd dd 417 [(0, .ref x0), (9, .ref x9), (12, .ref x12), (15, .int x15)] [] S := by
  unfold k_L_isCommitted_417 at h
  refine cg_aload C 1 rfl dL_isCommitted_417 ?_
  refine cg_iconst C (x := nI 0) rfl dL_isCommitted_419 ?_
  refine cg_iconst C (x := nI 0) rfl dL_isCommitted_420 ?_
  obtain ⟨hc_421, h⟩ := h
  refine cg_iastoreR C hc_421 dL_isCommitted_421 ?_
  refine cg_nm (fun S8 e_S8 => ?_)
  have h := h S8 e_S8
  refine cg_aload_n C (i := 0) rfl 0 rfl dL_isCommitted_422 ?_
  refine cg_iconst C (x := nI 5) rfl dL_isCommitted_423 ?_
  obtain ⟨mc9, ms10, hm_1, hm_2, h⟩ := h
  refine cg_callsWi C (tw_L_did l hlt mc9 ms10 x0 ((nI 5)) S8 dp h) cc_L_205 rfl ⟨by decide, by decide⟩ ⟨hm_1, hm_2⟩ rfl (Nat.le_of_ble_eq_true rfl) dL_isCommitted_424 (fun r_11 S_11 h => ?_)
  refine cg_iload C 3 rfl dL_isCommitted_427 ?_
  refine cg_if_eq C 440 (by decide) dL_isCommitted_429 (fun c_ => ?_) (fun c_ => ?_)
  · have h := h.1 c_
    refine cg_bipush C (x := (-2)) rfl dL_isCommitted_440 ?_
    exact cg_sub [] rfl (tb_L_isCommitted_442 C hlt  (((-2))) r_11 (cd + mc9) (dd + ms10) S_11 h)
  · have h := h.2 c_
    refine cg_aload C 2 rfl dL_isCommitted_432 ?_
    refine cg_bipush C (x := nI 7) rfl dL_isCommitted_434 ?_
    obtain ⟨hc_436, h⟩ := h
    refine cg_ialoadR C hc_436 dL_isCommitted_436 ?_
    refine cg_goto C 442 (by decide) dL_isCommitted_437 ?_
    exact cg_sub [] rfl (tb_L_isCommitted_442 C hlt  ((cI S_11 x12 ((nI 7)).toNatClampNeg)) r_11 (cd + mc9) (dd + ms10) S_11 h)
set_option maxRecDepth 20000 in
theorem tb_L_isCommitted_385 {mc ms : Nat} (C : cC p s m args meth c cL_isCommitted 17 (some .boolean) A D Y tp dp RL) (hlt : l.stackTraces = false) {post : Int32 → cS → Prop} {R385 : Nat → Nat → Nat → Nat → Int32 → Int32 → Nat → Nat → cS → Prop} (hR385 : ∀ (x0 : Nat) (x8 : Nat) (x9 : Nat) (x12 : Nat) (x15 : Int32) (x16 : Int32) (cd dd : Nat) (S : cS), R385 x0 x8 x9 x12 x15 x16 cd dd S → cG p l e (cRm 13 mc ms 310) s m args below meth c A D Y 17 (MQ below (cQi post D Y A) args s mc ms A) cd dd 385 [(0, .ref x0), (8, .ref x8), (9, .ref x9), (12, .ref x12), (15, .int x15), (16, .int x16)] [] S) (x0 : Nat) (x8 : Nat) (x9 : Nat) (x12 : Nat) (x15 : Int32) (x16 : Int32) (cd dd : Nat) (S : cS) (h : k_L_isCommitted_385 post dp mc ms R385 x0 x8 x9 x12 x15 x16 cd dd S) : cG p l e (cRm 13 mc ms 310) s m args below meth c A D Y 17 (MQ below (cQi post D Y A) args s mc ms A) cd dd 385 [(0, .ref x0), (8, .ref x8), (9, .ref x9), (12, .ref x12), (15, .int x15), (16, .int x16)] [] S := by
  unfold k_L_isCommitted_385 at h
  refine cg_iload C 5 rfl dL_isCommitted_385 ?_
  refine cg_bipush C (x := nI 64) rfl dL_isCommitted_387 ?_
  refine cg_icmp_ge C 408 (by decide) dL_isCommitted_389 (fun c_ => ?_) (fun c_ => ?_)
  · have h := h.1 c_
    refine cg_aload C 3 rfl dL_isCommitted_408 ?_
    refine cg_bipush C (x := nI 7) rfl dL_isCommitted_410 ?_
    refine cg_dup2 C rfl rfl dL_isCommitted_412 ?_
    obtain ⟨hc_413, h⟩ := h
    refine cg_ialoadR C hc_413 dL_isCommitted_413 ?_
    refine cg_iconst C (x := nI 1) rfl dL_isCommitted_414 ?_
    refine cg_iadd C dL_isCommitted_415 ?_
    obtain ⟨hc_416, h⟩ := h
    refine cg_iastoreR C hc_416 dL_isCommitted_416 ?_
    refine cg_nm (fun S12 e_S12 => ?_)
    have h := h S12 e_S12
    exact cg_sub [0, 2, 3, 4] rfl (tb_L_isCommitted_417 C hlt  x0 x9 x12 x15 cd dd S12 h)
  · have h := h.2 c_
    refine cg_aload C 1 rfl dL_isCommitted_392 ?_
    refine cg_iload C 5 rfl dL_isCommitted_394 ?_
    refine cg_aload C 2 rfl dL_isCommitted_396 ?_
    refine cg_iload C 5 rfl dL_isCommitted_398 ?_
    obtain ⟨hc_400, h⟩ := h
    refine cg_ialoadR C hc_400 dL_isCommitted_400 ?_
    obtain ⟨hc_401, h⟩ := h
    refine cg_iastoreR C hc_401 dL_isCommitted_401 ?_
    refine cg_nm (fun S13 e_S13 => ?_)
    have h := h S13 e_S13
    obtain ⟨x16_14, e_x16_14⟩ : ∃ z : Int32, z = x16 + nI 1 := ⟨_, rfl⟩
    have h := h x16_14 e_x16_14
    refine cg_iinc C (lv' := [(16, .int x16_14), (0, .ref x0), (8, .ref x8), (9, .ref x9), (12, .ref x12), (15, .int x15)]) 5 rfl (by rw [e_x16_14]; rfl) (Nat.le_of_ble_eq_true rfl) rfl dL_isCommitted_402 ?_
    refine cg_goto C 385 (by decide) dL_isCommitted_405 ?_
    exact cg_sub [1, 2, 3, 4, 5, 0] rfl (hR385 x0 x8 x9 x12 x15 x16_14 cd dd S13 h)
set_option maxRecDepth 20000 in
theorem tl_L_isCommitted_385 {mc ms : Nat} (C : cC p s m args meth c cL_isCommitted 17 (some .boolean) A D Y tp dp RL) (hlt : l.stackTraces = false) {post : Int32 → cS → Prop}   (x0 : Nat) (x8 : Nat) (x9 : Nat) (x12 : Nat) (x15 : Int32) (x16 : Int32) (cd dd : Nat) (S : cS) (h : k_L_isCommitted_385L post dp mc ms  x0 x8 x9 x12 x15 x16 cd dd S) : cG p l e (cRm 13 mc ms 310) s m args below meth c A D Y 17 (MQ below (cQi post D Y A) args s mc ms A) cd dd 385 [(0, .ref x0), (8, .ref x8), (9, .ref x9), (12, .ref x12), (15, .int x15), (16, .int x16)] [] S :=
  h (fun y => cG p l e (cRm 13 mc ms 310) s m args below meth c A D Y 17 (MQ below (cQi post D Y A) args s mc ms A) (y.2.2.2.2.2.2.1) (y.2.2.2.2.2.2.2.1) 385 [(0, .ref (y.1)), (8, .ref (y.2.1)), (9, .ref (y.2.2.1)), (12, .ref (y.2.2.2.1)), (15, .int (y.2.2.2.2.1)), (16, .int (y.2.2.2.2.2.1))] [] (y.2.2.2.2.2.2.2.2)) (fun y hy => tb_L_isCommitted_385 C hlt  (fun b0 b1 b2 b3 b4 b5 b6 b7 S z => z) (y.1) (y.2.1) (y.2.2.1) (y.2.2.2.1) (y.2.2.2.2.1) (y.2.2.2.2.2.1) (y.2.2.2.2.2.2.1) (y.2.2.2.2.2.2.2.1) (y.2.2.2.2.2.2.2.2) hy)
set_option maxRecDepth 20000 in
theorem tb_L_isCommitted_301 {mc ms : Nat} (C : cC p s m args meth c cL_isCommitted 17 (some .boolean) A D Y tp dp RL) (hlt : l.stackTraces = false) {post : Int32 → cS → Prop} {R301 : Nat → Nat → Nat → Nat → Int32 → Nat → Nat → cS → Prop} (hR301 : ∀ (x0 : Nat) (x6 : Nat) (x9 : Nat) (x13 : Nat) (x15 : Int32) (cd dd : Nat) (S : cS), R301 x0 x6 x9 x13 x15 cd dd S → cG p l e (cRm 13 mc ms 310) s m args below meth c A D Y 17 (MQ below (cQi post D Y A) args s mc ms A) cd dd 301 [(0, .ref x0), (6, .ref x6), (9, .ref x9), (13, .ref x13), (15, .int x15)] [] S) (x0 : Nat) (x6 : Nat) (x9 : Nat) (x13 : Nat) (x15 : Int32) (cd dd : Nat) (S : cS) (h : k_L_isCommitted_301 post dp mc ms R301 x0 x6 x9 x13 x15 cd dd S) : cG p l e (cRm 13 mc ms 310) s m args below meth c A D Y 17 (MQ below (cQi post D Y A) args s mc ms A) cd dd 301 [(0, .ref x0), (6, .ref x6), (9, .ref x9), (13, .ref x13), (15, .int x15)] [] S := by
  unfold k_L_isCommitted_301 at h
  refine cg_iload C 4 rfl dL_isCommitted_301 ?_
  refine cg_aload C 2 rfl dL_isCommitted_303 ?_
  refine cg_iconst C (x := nI 1) rfl dL_isCommitted_305 ?_
  obtain ⟨hc_306, h⟩ := h
  refine cg_ialoadR C hc_306 dL_isCommitted_306 ?_
  refine cg_icmp_ge C 336 (by decide) dL_isCommitted_307 (fun c_ => ?_) (fun c_ => ?_)
  · have h := h.1 c_
    refine cg_aload C 2 rfl dL_isCommitted_336 ?_
    refine cg_iconst C (x := nI 0) rfl dL_isCommitted_338 ?_
    refine cg_iconst C (x := nI 0) rfl dL_isCommitted_339 ?_
    obtain ⟨hc_340, h⟩ := h
    refine cg_iastoreR C hc_340 dL_isCommitted_340 ?_
    refine cg_nm (fun S15 e_S15 => ?_)
    have h := h S15 e_S15
    refine cg_aload_n C (i := 0) rfl 0 rfl dL_isCommitted_341 ?_
    obtain ⟨hc_342, h⟩ := h
    obtain ⟨hb_342, h⟩ := h
    refine cg_callv C (t_X11_drop l x0 S15 dp h) cc_L_253 hc_342.1 hc_342.2 (by decide) rfl rfl ⟨by decide, by decide⟩ hb_342 rfl (Nat.le_of_ble_eq_true rfl) dL_isCommitted_342 (fun S_16 h => ?_)
    simp only [Nat.add_zero]
    refine cg_aload_n C (i := 0) rfl 0 rfl dL_isCommitted_345 ?_
    refine cg_iconst C (x := nI 5) rfl dL_isCommitted_346 ?_
    obtain ⟨mc17, ms18, hm_1, hm_2, h⟩ := h
    refine cg_callsWi C (tw_L_did l hlt mc17 ms18 x0 ((nI 5)) S_16 dp h) cc_L_205 rfl ⟨by decide, by decide⟩ ⟨hm_1, hm_2⟩ rfl (Nat.le_of_ble_eq_true rfl) dL_isCommitted_347 (fun r_19 S_19 h => ?_)
    refine cg_bipush C (x := (-7)) rfl dL_isCommitted_350 ?_
    refine cg_icmp_ne C 359 (by decide) dL_isCommitted_352 (fun c_ => ?_) (fun c_ => ?_)
    · have h := h.1 c_
      refine cg_iconst C (x := nI 0) rfl dL_isCommitted_359 ?_
      obtain ⟨hb_360, h⟩ := h
      refine cg_cast (.int (bI false)) rfl ?_
      exact cg_zret C (bI_nar _) h dL_isCommitted_360 hb_360.1 hb_360.2
    · have h := h.2 c_
      refine cg_iconst C (x := nI 1) rfl dL_isCommitted_355 ?_
      refine cg_goto C 360 (by decide) dL_isCommitted_356 ?_
      obtain ⟨hb_360, h⟩ := h
      refine cg_cast (.int (bI true)) rfl ?_
      exact cg_zret C (bI_nar _) h dL_isCommitted_360 hb_360.1 hb_360.2
  · have h := h.2 c_
    refine cg_aload C 1 rfl dL_isCommitted_310 ?_
    refine cg_aload C 2 rfl dL_isCommitted_312 ?_
    refine cg_iconst C (x := nI 2) rfl dL_isCommitted_314 ?_
    refine cg_iload C 4 rfl dL_isCommitted_315 ?_
    refine cg_iadd C dL_isCommitted_317 ?_
    obtain ⟨hc_318, h⟩ := h
    refine cg_ialoadR C hc_318 dL_isCommitted_318 ?_
    refine cg_aload C 3 rfl dL_isCommitted_319 ?_
    refine cg_aload C 2 rfl dL_isCommitted_321 ?_
    refine cg_iconst C (x := nI 2) rfl dL_isCommitted_323 ?_
    refine cg_iload C 4 rfl dL_isCommitted_324 ?_
    refine cg_iadd C dL_isCommitted_326 ?_
    obtain ⟨hc_327, h⟩ := h
    refine cg_ialoadR C hc_327 dL_isCommitted_327 ?_
    obtain ⟨hc_328, h⟩ := h
    refine cg_ialoadR C hc_328 dL_isCommitted_328 ?_
    obtain ⟨hc_329, h⟩ := h
    refine cg_iastoreR C hc_329 dL_isCommitted_329 ?_
    refine cg_nm (fun S20 e_S20 => ?_)
    have h := h S20 e_S20
    obtain ⟨x15_21, e_x15_21⟩ : ∃ z : Int32, z = x15 + nI 1 := ⟨_, rfl⟩
    have h := h x15_21 e_x15_21
    refine cg_iinc C (lv' := [(15, .int x15_21), (0, .ref x0), (6, .ref x6), (9, .ref x9), (13, .ref x13)]) 4 rfl (by rw [e_x15_21]; rfl) (Nat.le_of_ble_eq_true rfl) rfl dL_isCommitted_330 ?_
    refine cg_goto C 301 (by decide) dL_isCommitted_333 ?_
    exact cg_sub [1, 2, 3, 4, 0] rfl (hR301 x0 x6 x9 x13 x15_21 cd dd S20 h)
set_option maxRecDepth 20000 in
theorem tl_L_isCommitted_301 {mc ms : Nat} (C : cC p s m args meth c cL_isCommitted 17 (some .boolean) A D Y tp dp RL) (hlt : l.stackTraces = false) {post : Int32 → cS → Prop}   (x0 : Nat) (x6 : Nat) (x9 : Nat) (x13 : Nat) (x15 : Int32) (cd dd : Nat) (S : cS) (h : k_L_isCommitted_301L post dp mc ms  x0 x6 x9 x13 x15 cd dd S) : cG p l e (cRm 13 mc ms 310) s m args below meth c A D Y 17 (MQ below (cQi post D Y A) args s mc ms A) cd dd 301 [(0, .ref x0), (6, .ref x6), (9, .ref x9), (13, .ref x13), (15, .int x15)] [] S :=
  h (fun y => cG p l e (cRm 13 mc ms 310) s m args below meth c A D Y 17 (MQ below (cQi post D Y A) args s mc ms A) (y.2.2.2.2.2.1) (y.2.2.2.2.2.2.1) 301 [(0, .ref (y.1)), (6, .ref (y.2.1)), (9, .ref (y.2.2.1)), (13, .ref (y.2.2.2.1)), (15, .int (y.2.2.2.2.1))] [] (y.2.2.2.2.2.2.2)) (fun y hy => tb_L_isCommitted_301 C hlt  (fun b0 b1 b2 b3 b4 b5 b6 S z => z) (y.1) (y.2.1) (y.2.2.1) (y.2.2.2.1) (y.2.2.2.2.1) (y.2.2.2.2.2.1) (y.2.2.2.2.2.2.1) (y.2.2.2.2.2.2.2) hy)
set_option maxRecDepth 20000 in
theorem tb_L_isCommitted_22 {mc ms : Nat} (C : cC p s m args meth c cL_isCommitted 17 (some .boolean) A D Y tp dp RL) (hlt : l.stackTraces = false) {post : Int32 → cS → Prop}   (x0 : Nat) (cd dd : Nat) (S : cS) (h : k_L_isCommitted_22 post dp mc ms  x0 cd dd S) : cG p l e (cRm 13 mc ms 310) s m args below meth c A D Y 17 (MQ below (cQi post D Y A) args s mc ms A) cd dd 22 [(0, .ref x0)] [] S := by
  unfold k_L_isCommitted_22 at h
  refine cg_aload_n C (i := 0) rfl 0 rfl dL_isCommitted_22 ?_
  refine cg_iconst C (x := nI 4) rfl dL_isCommitted_23 ?_
  obtain ⟨mc22, ms23, hm_1, hm_2, h⟩ := h
  refine cg_callsWi C (tw_L_did l hlt mc22 ms23 x0 ((nI 4)) S dp h) cc_L_205 rfl ⟨by decide, by decide⟩ ⟨hm_1, hm_2⟩ rfl (Nat.le_of_ble_eq_true rfl) dL_isCommitted_24 (fun r_24 S_24 h => ?_)
  refine cg_bipush C (x := (-7)) rfl dL_isCommitted_27 ?_
  refine cg_icmp_ne C 36 (by decide) dL_isCommitted_29 (fun c_ => ?_) (fun c_ => ?_)
  · have h := h.1 c_
    refine cg_iconst C (x := nI 0) rfl dL_isCommitted_36 ?_
    obtain ⟨hb_37, h⟩ := h
    refine cg_cast (.int (bI false)) rfl ?_
    exact cg_zret C (bI_nar _) h dL_isCommitted_37 hb_37.1 hb_37.2
  · have h := h.2 c_
    refine cg_iconst C (x := nI 1) rfl dL_isCommitted_32 ?_
    refine cg_goto C 37 (by decide) dL_isCommitted_33 ?_
    obtain ⟨hb_37, h⟩ := h
    refine cg_cast (.int (bI true)) rfl ?_
    exact cg_zret C (bI_nar _) h dL_isCommitted_37 hb_37.1 hb_37.2
set_option maxRecDepth 20000 in
theorem tb_L_isCommitted_244 {mc ms : Nat} (C : cC p s m args meth c cL_isCommitted 17 (some .boolean) A D Y tp dp RL) (hlt : l.stackTraces = false) {post : Int32 → cS → Prop}   (x0 : Nat) (x15 : Int32) (cd dd : Nat) (S : cS) (h : k_L_isCommitted_244 post dp mc ms  x0 x15 cd dd S) : cG p l e (cRm 13 mc ms 310) s m args below meth c A D Y 17 (MQ below (cQi post D Y A) args s mc ms A) cd dd 244 [(0, .ref x0), (15, .int x15)] [] S := by
  unfold k_L_isCommitted_244 at h
  refine cg_aload_n C (i := 0) rfl 0 rfl dL_isCommitted_244 ?_
  refine cg_iconst C (x := nI 4) rfl dL_isCommitted_245 ?_
  obtain ⟨mc26, ms27, hm_1, hm_2, h⟩ := h
  refine cg_callsWi C (tw_L_did l hlt mc26 ms27 x0 ((nI 4)) S dp h) cc_L_205 rfl ⟨by decide, by decide⟩ ⟨hm_1, hm_2⟩ rfl (Nat.le_of_ble_eq_true rfl) dL_isCommitted_246 (fun r_28 S_28 h => ?_)
  refine cg_iload C 1 rfl dL_isCommitted_249 ?_
  refine cg_icmp_ne C 258 (by decide) dL_isCommitted_251 (fun c_ => ?_) (fun c_ => ?_)
  · have h := h.1 c_
    refine cg_iconst C (x := nI 0) rfl dL_isCommitted_258 ?_
    obtain ⟨hb_259, h⟩ := h
    refine cg_cast (.int (bI false)) rfl ?_
    exact cg_zret C (bI_nar _) h dL_isCommitted_259 hb_259.1 hb_259.2
  · have h := h.2 c_
    refine cg_iconst C (x := nI 1) rfl dL_isCommitted_254 ?_
    refine cg_goto C 259 (by decide) dL_isCommitted_255 ?_
    obtain ⟨hb_259, h⟩ := h
    refine cg_cast (.int (bI true)) rfl ?_
    exact cg_zret C (bI_nar _) h dL_isCommitted_259 hb_259.1 hb_259.2
set_option maxRecDepth 20000 in
theorem tb_L_isCommitted_219 {mc ms : Nat} (C : cC p s m args meth c cL_isCommitted 17 (some .boolean) A D Y tp dp RL) (hlt : l.stackTraces = false) {post : Int32 → cS → Prop}   (x0 : Nat) (x5 : Nat) (x7 : Nat) (x9 : Nat) (x12 : Nat) (t0 : Int32) (cd dd : Nat) (S : cS) (h : k_L_isCommitted_219 post dp mc ms  x0 x5 x7 x9 x12 t0 cd dd S) : cG p l e (cRm 13 mc ms 310) s m args below meth c A D Y 17 (MQ below (cQi post D Y A) args s mc ms A) cd dd 219 [(0, .ref x0), (5, .ref x5), (7, .ref x7), (9, .ref x9), (12, .ref x12)] [.int t0] S := by
  unfold k_L_isCommitted_219 at h
  refine cg_istore C (lv' := [(15, .int t0), (0, .ref x0), (5, .ref x5), (7, .ref x7), (9, .ref x9), (12, .ref x12)]) (Nat.le_of_ble_eq_true rfl) rfl dL_isCommitted_219 ?_
  refine cg_iload C 0 rfl dL_isCommitted_221 ?_
  refine cg_bipush C (x := (-2)) rfl dL_isCommitted_223 ?_
  refine cg_icmp_eq C 244 (by decide) dL_isCommitted_225 (fun c_ => ?_) (fun c_ => ?_)
  · have h := h.1 c_
    exact cg_sub [1, 0] rfl (tb_L_isCommitted_244 C hlt  x0 t0 cd dd S h)
  · have h := h.2 c_
    refine cg_aload C 4 rfl dL_isCommitted_228 ?_
    refine cg_iconst C (x := nI 0) rfl dL_isCommitted_230 ?_
    refine cg_iconst C (x := nI 1) rfl dL_isCommitted_231 ?_
    obtain ⟨hc_232, h⟩ := h
    refine cg_iastoreR C hc_232 dL_isCommitted_232 ?_
    refine cg_nm (fun S29 e_S29 => ?_)
    have h := h S29 e_S29
    refine cg_aload C 4 rfl dL_isCommitted_233 ?_
    refine cg_aload C 3 rfl dL_isCommitted_235 ?_
    refine cg_aload C 2 rfl dL_isCommitted_237 ?_
    refine cg_aload C 5 rfl dL_isCommitted_239 ?_
    obtain ⟨hb_241, h⟩ := h
    refine cg_callsv C (t_L_names l x9 x7 x5 x12 S29 dp h) cc_L_249 rfl ⟨by decide, by decide⟩ hb_241 rfl (Nat.le_of_ble_eq_true rfl) dL_isCommitted_241 (fun S_30 h => ?_)
    simp only [Nat.add_zero]
    exact cg_sub [1, 0] rfl (tb_L_isCommitted_244 C hlt  x0 t0 cd dd S_30 h)
set_option maxRecDepth 20000 in
theorem tb_L_isCommitted_210 {mc ms : Nat} (C : cC p s m args meth c cL_isCommitted 17 (some .boolean) A D Y tp dp RL) (hlt : l.stackTraces = false) {post : Int32 → cS → Prop}   (x0 : Nat) (x5 : Nat) (x7 : Nat) (x9 : Nat) (x12 : Nat) (cd dd : Nat) (S : cS) (h : k_L_isCommitted_210 post dp mc ms  x0 x5 x7 x9 x12 cd dd S) : cG p l e (cRm 13 mc ms 310) s m args below meth c A D Y 17 (MQ below (cQi post D Y A) args s mc ms A) cd dd 210 [(0, .ref x0), (5, .ref x5), (7, .ref x7), (9, .ref x9), (12, .ref x12)] [] S := by
  unfold k_L_isCommitted_210 at h
  refine cg_bipush C (x := (-2)) rfl dL_isCommitted_210 ?_
  refine cg_goto C 219 (by decide) dL_isCommitted_212 ?_
  exact cg_sub [0, 1, 2, 3, 4] rfl (tb_L_isCommitted_219 C hlt  x0 x5 x7 x9 x12 (((-2))) cd dd S h)
set_option maxRecDepth 20000 in
theorem tb_L_isCommitted_189 {mc ms : Nat} (C : cC p s m args meth c cL_isCommitted 17 (some .boolean) A D Y tp dp RL) (hlt : l.stackTraces = false) {post : Int32 → cS → Prop}   (x0 : Nat) (x5 : Nat) (x7 : Nat) (x9 : Nat) (x10 : Nat) (x11 : Nat) (x12 : Nat) (x15 : Int32) (cd dd : Nat) (S : cS) (h : k_L_isCommitted_189 post dp mc ms  x0 x5 x7 x9 x10 x11 x12 x15 cd dd S) : cG p l e (cRm 13 mc ms 310) s m args below meth c A D Y 17 (MQ below (cQi post D Y A) args s mc ms A) cd dd 189 [(0, .ref x0), (5, .ref x5), (7, .ref x7), (9, .ref x9), (10, .ref x10), (11, .ref x11), (12, .ref x12), (15, .int x15)] [] S := by
  unfold k_L_isCommitted_189 at h
  refine cg_iload C 7 rfl dL_isCommitted_189 ?_
  refine cg_bipush C (x := (-2)) rfl dL_isCommitted_191 ?_
  refine cg_icmp_eq C 210 (by decide) dL_isCommitted_193 (fun c_ => ?_) (fun c_ => ?_)
  · have h := h.1 c_
    exact cg_sub [0, 1, 2, 3, 6] rfl (tb_L_isCommitted_210 C hlt  x0 x5 x7 x9 x12 cd dd S h)
  · have h := h.2 c_
    refine cg_aload C 6 rfl dL_isCommitted_196 ?_
    refine cg_aload C 3 rfl dL_isCommitted_198 ?_
    refine cg_aload C 4 rfl dL_isCommitted_200 ?_
    refine cg_aload C 5 rfl dL_isCommitted_202 ?_
    obtain ⟨hb_204, h⟩ := h
    refine cg_callsi C (t_L_writes l x12 x9 x10 x11 S dp h) cc_L_57 rfl ⟨by decide, by decide⟩ hb_204 rfl (Nat.le_of_ble_eq_true rfl) dL_isCommitted_204 (fun r_31 S_31 h => ?_)
    simp only [Nat.add_zero]
    refine cg_if_ne C 215 (by decide) dL_isCommitted_207 (fun c_ => ?_) (fun c_ => ?_)
    · have h := h.1 c_
      refine cg_aload C 6 rfl dL_isCommitted_215 ?_
      refine cg_iconst C (x := nI 3) rfl dL_isCommitted_217 ?_
      obtain ⟨hc_218, h⟩ := h
      refine cg_ialoadR C hc_218 dL_isCommitted_218 ?_
      exact cg_sub [0, 1, 2, 3, 6] rfl (tb_L_isCommitted_219 C hlt  x0 x5 x7 x9 x12 ((cI S_31 x12 ((nI 3)).toNatClampNeg)) cd dd S_31 h)
    · have h := h.2 c_
      exact cg_sub [0, 1, 2, 3, 6] rfl (tb_L_isCommitted_210 C hlt  x0 x5 x7 x9 x12 cd dd S_31 h)
set_option maxRecDepth 20000 in
theorem tb_L_isCommitted_183 {mc ms : Nat} (C : cC p s m args meth c cL_isCommitted 17 (some .boolean) A D Y tp dp RL) (hlt : l.stackTraces = false) {post : Int32 → cS → Prop} {R91 : Nat → Nat → Nat → Nat → Nat → Nat → Nat → Nat → Int32 → Int32 → Nat → Nat → cS → Prop} (hR91 : ∀ (x0 : Nat) (x5 : Nat) (x6 : Nat) (x7 : Nat) (x9 : Nat) (x10 : Nat) (x11 : Nat) (x12 : Nat) (x15 : Int32) (x16 : Int32) (cd dd : Nat) (S : cS), R91 x0 x5 x6 x7 x9 x10 x11 x12 x15 x16 cd dd S → cG p l e (cRm 13 mc ms 310) s m args below meth c A D Y 17 (MQ below (cQi post D Y A) args s mc ms A) cd dd 91 [(0, .ref x0), (5, .ref x5), (6, .ref x6), (7, .ref x7), (9, .ref x9), (10, .ref x10), (11, .ref x11), (12, .ref x12), (15, .int x15), (16, .int x16)] [] S) (x0 : Nat) (x5 : Nat) (x6 : Nat) (x7 : Nat) (x9 : Nat) (x10 : Nat) (x11 : Nat) (x12 : Nat) (x15 : Int32) (x16 : Int32) (cd dd : Nat) (S : cS) (h : k_L_isCommitted_183 post dp mc ms R91 x0 x5 x6 x7 x9 x10 x11 x12 x15 x16 cd dd S) : cG p l e (cRm 13 mc ms 310) s m args below meth c A D Y 17 (MQ below (cQi post D Y A) args s mc ms A) cd dd 183 [(0, .ref x0), (5, .ref x5), (6, .ref x6), (7, .ref x7), (9, .ref x9), (10, .ref x10), (11, .ref x11), (12, .ref x12), (15, .int x15), (16, .int x16)] [] S := by
  unfold k_L_isCommitted_183 at h
  obtain ⟨x16_32, e_x16_32⟩ : ∃ z : Int32, z = x16 + nI 1 := ⟨_, rfl⟩
  have h := h x16_32 e_x16_32
  refine cg_iinc C (lv' := [(16, .int x16_32), (0, .ref x0), (5, .ref x5), (6, .ref x6), (7, .ref x7), (9, .ref x9), (10, .ref x10), (11, .ref x11), (12, .ref x12), (15, .int x15)]) 9 rfl (by rw [e_x16_32]; rfl) (Nat.le_of_ble_eq_true rfl) rfl dL_isCommitted_183 ?_
  refine cg_goto C 91 (by decide) dL_isCommitted_186 ?_
  exact cg_sub [1, 2, 3, 4, 5, 6, 7, 8, 9, 0] rfl (hR91 x0 x5 x6 x7 x9 x10 x11 x12 x15 x16_32 cd dd S h)
set_option maxRecDepth 20000 in
theorem tb_L_isCommitted_182 {mc ms : Nat} (C : cC p s m args meth c cL_isCommitted 17 (some .boolean) A D Y tp dp RL) (hlt : l.stackTraces = false) {post : Int32 → cS → Prop} {R91 : Nat → Nat → Nat → Nat → Nat → Nat → Nat → Nat → Int32 → Int32 → Nat → Nat → cS → Prop} (hR91 : ∀ (x0 : Nat) (x5 : Nat) (x6 : Nat) (x7 : Nat) (x9 : Nat) (x10 : Nat) (x11 : Nat) (x12 : Nat) (x15 : Int32) (x16 : Int32) (cd dd : Nat) (S : cS), R91 x0 x5 x6 x7 x9 x10 x11 x12 x15 x16 cd dd S → cG p l e (cRm 13 mc ms 310) s m args below meth c A D Y 17 (MQ below (cQi post D Y A) args s mc ms A) cd dd 91 [(0, .ref x0), (5, .ref x5), (6, .ref x6), (7, .ref x7), (9, .ref x9), (10, .ref x10), (11, .ref x11), (12, .ref x12), (15, .int x15), (16, .int x16)] [] S) (x0 : Nat) (x5 : Nat) (x6 : Nat) (x7 : Nat) (x9 : Nat) (x10 : Nat) (x11 : Nat) (x12 : Nat) (x15 : Int32) (x16 : Int32) (t0 : Int32) (t1 : Int32) (t2 : Nat) (cd dd : Nat) (S : cS) (h : k_L_isCommitted_182 post dp mc ms R91 x0 x5 x6 x7 x9 x10 x11 x12 x15 x16 t0 t1 t2 cd dd S) : cG p l e (cRm 13 mc ms 310) s m args below meth c A D Y 17 (MQ below (cQi post D Y A) args s mc ms A) cd dd 182 [(0, .ref x0), (5, .ref x5), (6, .ref x6), (7, .ref x7), (9, .ref x9), (10, .ref x10), (11, .ref x11), (12, .ref x12), (15, .int x15), (16, .int x16)] [.int t0, .int t1, .ref t2] S := by
  unfold k_L_isCommitted_182 at h
  obtain ⟨hc_182, h⟩ := h
  refine cg_iastoreR C hc_182 dL_isCommitted_182 ?_
  refine cg_nm (fun S34 e_S34 => ?_)
  have h := h S34 e_S34
  exact cg_sub [0, 1, 2, 3, 4, 5, 6, 7, 8, 9] rfl (tb_L_isCommitted_183 C hlt hR91 x0 x5 x6 x7 x9 x10 x11 x12 x15 x16 cd dd S34 h)
set_option maxRecDepth 20000 in
theorem tb_L_isCommitted_147 {mc ms : Nat} (C : cC p s m args meth c cL_isCommitted 17 (some .boolean) A D Y tp dp RL) (hlt : l.stackTraces = false) {post : Int32 → cS → Prop} {R91 : Nat → Nat → Nat → Nat → Nat → Nat → Nat → Nat → Int32 → Int32 → Nat → Nat → cS → Prop} (hR91 : ∀ (x0 : Nat) (x5 : Nat) (x6 : Nat) (x7 : Nat) (x9 : Nat) (x10 : Nat) (x11 : Nat) (x12 : Nat) (x15 : Int32) (x16 : Int32) (cd dd : Nat) (S : cS), R91 x0 x5 x6 x7 x9 x10 x11 x12 x15 x16 cd dd S → cG p l e (cRm 13 mc ms 310) s m args below meth c A D Y 17 (MQ below (cQi post D Y A) args s mc ms A) cd dd 91 [(0, .ref x0), (5, .ref x5), (6, .ref x6), (7, .ref x7), (9, .ref x9), (10, .ref x10), (11, .ref x11), (12, .ref x12), (15, .int x15), (16, .int x16)] [] S) (x0 : Nat) (x5 : Nat) (x6 : Nat) (x7 : Nat) (x9 : Nat) (x10 : Nat) (x11 : Nat) (x12 : Nat) (x16 : Int32) (t0 : Int32) (cd dd : Nat) (S : cS) (h : k_L_isCommitted_147 post dp mc ms R91 x0 x5 x6 x7 x9 x10 x11 x12 x16 t0 cd dd S) : cG p l e (cRm 13 mc ms 310) s m args below meth c A D Y 17 (MQ below (cQi post D Y A) args s mc ms A) cd dd 147 [(0, .ref x0), (5, .ref x5), (6, .ref x6), (7, .ref x7), (9, .ref x9), (10, .ref x10), (11, .ref x11), (12, .ref x12), (16, .int x16)] [.int t0] S := by
  unfold k_L_isCommitted_147 at h
  refine cg_istore C (lv' := [(15, .int t0), (0, .ref x0), (5, .ref x5), (6, .ref x6), (7, .ref x7), (9, .ref x9), (10, .ref x10), (11, .ref x11), (12, .ref x12), (16, .int x16)]) (Nat.le_of_ble_eq_true rfl) rfl dL_isCommitted_147 ?_
  refine cg_aload C 3 rfl dL_isCommitted_149 ?_
  refine cg_aload C 4 rfl dL_isCommitted_151 ?_
  refine cg_iload C 9 rfl dL_isCommitted_153 ?_
  obtain ⟨hc_155, h⟩ := h
  refine cg_ialoadR C hc_155 dL_isCommitted_155 ?_
  refine cg_iload C 0 rfl dL_isCommitted_156 ?_
  refine cg_bipush C (x := (-2)) rfl dL_isCommitted_158 ?_
  refine cg_icmp_ne C 174 (by decide) dL_isCommitted_160 (fun c_ => ?_) (fun c_ => ?_)
  · have h := h.1 c_
    refine cg_aload C 2 rfl dL_isCommitted_174 ?_
    refine cg_aload C 4 rfl dL_isCommitted_176 ?_
    refine cg_iload C 9 rfl dL_isCommitted_178 ?_
    obtain ⟨hc_180, h⟩ := h
    refine cg_ialoadR C hc_180 dL_isCommitted_180 ?_
    obtain ⟨hc_181, h⟩ := h
    refine cg_ialoadR C hc_181 dL_isCommitted_181 ?_
    exact cg_sub [1, 2, 3, 4, 5, 6, 7, 8, 0, 9] rfl (tb_L_isCommitted_182 C hlt hR91 x0 x5 x6 x7 x9 x10 x11 x12 t0 x16 ((cI S x5 ((cI S x7 (x16).toNatClampNeg)).toNatClampNeg)) ((cI S x7 (x16).toNatClampNeg)) x6 cd dd S h)
  · have h := h.2 c_
    refine cg_aload C 3 rfl dL_isCommitted_163 ?_
    refine cg_aload C 4 rfl dL_isCommitted_165 ?_
    refine cg_iload C 9 rfl dL_isCommitted_167 ?_
    obtain ⟨hc_169, h⟩ := h
    refine cg_ialoadR C hc_169 dL_isCommitted_169 ?_
    obtain ⟨hc_170, h⟩ := h
    refine cg_ialoadR C hc_170 dL_isCommitted_170 ?_
    refine cg_goto C 182 (by decide) dL_isCommitted_171 ?_
    exact cg_sub [1, 2, 3, 4, 5, 6, 7, 8, 0, 9] rfl (tb_L_isCommitted_182 C hlt hR91 x0 x5 x6 x7 x9 x10 x11 x12 t0 x16 ((cI S x6 ((cI S x7 (x16).toNatClampNeg)).toNatClampNeg)) ((cI S x7 (x16).toNatClampNeg)) x6 cd dd S h)
set_option maxRecDepth 20000 in
theorem tb_L_isCommitted_91 {mc ms : Nat} (C : cC p s m args meth c cL_isCommitted 17 (some .boolean) A D Y tp dp RL) (hlt : l.stackTraces = false) {post : Int32 → cS → Prop} {R91 : Nat → Nat → Nat → Nat → Nat → Nat → Nat → Nat → Int32 → Int32 → Nat → Nat → cS → Prop} (hR91 : ∀ (x0 : Nat) (x5 : Nat) (x6 : Nat) (x7 : Nat) (x9 : Nat) (x10 : Nat) (x11 : Nat) (x12 : Nat) (x15 : Int32) (x16 : Int32) (cd dd : Nat) (S : cS), R91 x0 x5 x6 x7 x9 x10 x11 x12 x15 x16 cd dd S → cG p l e (cRm 13 mc ms 310) s m args below meth c A D Y 17 (MQ below (cQi post D Y A) args s mc ms A) cd dd 91 [(0, .ref x0), (5, .ref x5), (6, .ref x6), (7, .ref x7), (9, .ref x9), (10, .ref x10), (11, .ref x11), (12, .ref x12), (15, .int x15), (16, .int x16)] [] S) (x0 : Nat) (x5 : Nat) (x6 : Nat) (x7 : Nat) (x9 : Nat) (x10 : Nat) (x11 : Nat) (x12 : Nat) (x15 : Int32) (x16 : Int32) (cd dd : Nat) (S : cS) (h : k_L_isCommitted_91 post dp mc ms R91 x0 x5 x6 x7 x9 x10 x11 x12 x15 x16 cd dd S) : cG p l e (cRm 13 mc ms 310) s m args below meth c A D Y 17 (MQ below (cQi post D Y A) args s mc ms A) cd dd 91 [(0, .ref x0), (5, .ref x5), (6, .ref x6), (7, .ref x7), (9, .ref x9), (10, .ref x10), (11, .ref x11), (12, .ref x12), (15, .int x15), (16, .int x16)] [] S := by
  unfold k_L_isCommitted_91 at h
  refine cg_iload C 9 rfl dL_isCommitted_91 ?_
  refine cg_aload C 7 rfl dL_isCommitted_93 ?_
  refine cg_iconst C (x := nI 3) rfl dL_isCommitted_95 ?_
  obtain ⟨hc_96, h⟩ := h
  refine cg_ialoadR C hc_96 dL_isCommitted_96 ?_
  refine cg_icmp_ge C 189 (by decide) dL_isCommitted_97 (fun c_ => ?_) (fun c_ => ?_)
  · have h := h.1 c_
    exact cg_sub [0, 1, 3, 4, 5, 6, 7, 8] rfl (tb_L_isCommitted_189 C hlt  x0 x5 x7 x9 x10 x11 x12 x15 cd dd S h)
  · have h := h.2 c_
    refine cg_iload C 8 rfl dL_isCommitted_100 ?_
    refine cg_bipush C (x := (-2)) rfl dL_isCommitted_102 ?_
    refine cg_icmp_le C 189 (by decide) dL_isCommitted_104 (fun c_ => ?_) (fun c_ => ?_)
    · have h := h.1 c_
      exact cg_sub [0, 1, 3, 4, 5, 6, 7, 8] rfl (tb_L_isCommitted_189 C hlt  x0 x5 x7 x9 x10 x11 x12 x15 cd dd S h)
    · have h := h.2 c_
      refine cg_aload C 1 rfl dL_isCommitted_107 ?_
      refine cg_aload C 3 rfl dL_isCommitted_109 ?_
      refine cg_iload C 9 rfl dL_isCommitted_111 ?_
      obtain ⟨hc_113, h⟩ := h
      refine cg_ialoadR C hc_113 dL_isCommitted_113 ?_
      obtain ⟨hc_114, h⟩ := h
      refine cg_ialoadR C hc_114 dL_isCommitted_114 ?_
      refine cg_aload C 2 rfl dL_isCommitted_115 ?_
      refine cg_aload C 3 rfl dL_isCommitted_117 ?_
      refine cg_iload C 9 rfl dL_isCommitted_119 ?_
      obtain ⟨hc_121, h⟩ := h
      refine cg_ialoadR C hc_121 dL_isCommitted_121 ?_
      obtain ⟨hc_122, h⟩ := h
      refine cg_ialoadR C hc_122 dL_isCommitted_122 ?_
      refine cg_icmp_eq C 183 (by decide) dL_isCommitted_123 (fun c_ => ?_) (fun c_ => ?_)
      · have h := h.1 c_
        exact cg_sub [0, 1, 2, 3, 4, 5, 6, 7, 8, 9] rfl (tb_L_isCommitted_183 C hlt hR91 x0 x5 x6 x7 x9 x10 x11 x12 x15 x16 cd dd S h)
      · have h := h.2 c_
        refine cg_aload C 7 rfl dL_isCommitted_126 ?_
        refine cg_aload C 4 rfl dL_isCommitted_128 ?_
        refine cg_aload C 5 rfl dL_isCommitted_130 ?_
        refine cg_aload C 6 rfl dL_isCommitted_132 ?_
        obtain ⟨hb_134, h⟩ := h
        refine cg_callsi C (t_L_writes l x12 x9 x10 x11 S dp h) cc_L_57 rfl ⟨by decide, by decide⟩ hb_134 rfl (Nat.le_of_ble_eq_true rfl) dL_isCommitted_134 (fun r_33 S_33 h => ?_)
        simp only [Nat.add_zero]
        refine cg_if_eq C 145 (by decide) dL_isCommitted_137 (fun c_ => ?_) (fun c_ => ?_)
        · have h := h.1 c_
          refine cg_bipush C (x := (-2)) rfl dL_isCommitted_145 ?_
          exact cg_sub [0, 1, 2, 3, 4, 5, 6, 7, 9] rfl (tb_L_isCommitted_147 C hlt hR91 x0 x5 x6 x7 x9 x10 x11 x12 x16 (((-2))) cd dd S_33 h)
        · have h := h.2 c_
          refine cg_iload C 8 rfl dL_isCommitted_140 ?_
          refine cg_goto C 147 (by decide) dL_isCommitted_142 ?_
          exact cg_sub [0, 1, 2, 3, 4, 5, 6, 7, 9] rfl (tb_L_isCommitted_147 C hlt hR91 x0 x5 x6 x7 x9 x10 x11 x12 x16 x15 cd dd S_33 h)
set_option maxRecDepth 20000 in
theorem tl_L_isCommitted_91 {mc ms : Nat} (C : cC p s m args meth c cL_isCommitted 17 (some .boolean) A D Y tp dp RL) (hlt : l.stackTraces = false) {post : Int32 → cS → Prop}   (x0 : Nat) (x5 : Nat) (x6 : Nat) (x7 : Nat) (x9 : Nat) (x10 : Nat) (x11 : Nat) (x12 : Nat) (x15 : Int32) (x16 : Int32) (cd dd : Nat) (S : cS) (h : k_L_isCommitted_91L post dp mc ms  x0 x5 x6 x7 x9 x10 x11 x12 x15 x16 cd dd S) : cG p l e (cRm 13 mc ms 310) s m args below meth c A D Y 17 (MQ below (cQi post D Y A) args s mc ms A) cd dd 91 [(0, .ref x0), (5, .ref x5), (6, .ref x6), (7, .ref x7), (9, .ref x9), (10, .ref x10), (11, .ref x11), (12, .ref x12), (15, .int x15), (16, .int x16)] [] S :=
  h (fun y => cG p l e (cRm 13 mc ms 310) s m args below meth c A D Y 17 (MQ below (cQi post D Y A) args s mc ms A) (y.2.2.2.2.2.2.2.2.2.2.1) (y.2.2.2.2.2.2.2.2.2.2.2.1) 91 [(0, .ref (y.1)), (5, .ref (y.2.1)), (6, .ref (y.2.2.1)), (7, .ref (y.2.2.2.1)), (9, .ref (y.2.2.2.2.1)), (10, .ref (y.2.2.2.2.2.1)), (11, .ref (y.2.2.2.2.2.2.1)), (12, .ref (y.2.2.2.2.2.2.2.1)), (15, .int (y.2.2.2.2.2.2.2.2.1)), (16, .int (y.2.2.2.2.2.2.2.2.2.1))] [] (y.2.2.2.2.2.2.2.2.2.2.2.2)) (fun y hy => tb_L_isCommitted_91 C hlt  (fun b0 b1 b2 b3 b4 b5 b6 b7 b8 b9 b10 b11 S z => z) (y.1) (y.2.1) (y.2.2.1) (y.2.2.2.1) (y.2.2.2.2.1) (y.2.2.2.2.2.1) (y.2.2.2.2.2.2.1) (y.2.2.2.2.2.2.2.1) (y.2.2.2.2.2.2.2.2.1) (y.2.2.2.2.2.2.2.2.2.1) (y.2.2.2.2.2.2.2.2.2.2.1) (y.2.2.2.2.2.2.2.2.2.2.2.1) (y.2.2.2.2.2.2.2.2.2.2.2.2) hy)
set_option maxRecDepth 20000 in
theorem tb_L_isCommitted_65 {mc ms : Nat} (C : cC p s m args meth c cL_isCommitted 17 (some .boolean) A D Y tp dp RL) (hlt : l.stackTraces = false) {post : Int32 → cS → Prop} {R65 : Nat → Nat → Nat → Nat → Nat → Nat → Nat → Nat → Nat → Int32 → Int32 → Nat → Nat → cS → Prop} (hR65 : ∀ (x0 : Nat) (x5 : Nat) (x6 : Nat) (x7 : Nat) (x9 : Nat) (x10 : Nat) (x11 : Nat) (x12 : Nat) (x13 : Nat) (x15 : Int32) (x16 : Int32) (cd dd : Nat) (S : cS), R65 x0 x5 x6 x7 x9 x10 x11 x12 x13 x15 x16 cd dd S → cG p l e (cRm 13 mc ms 310) s m args below meth c A D Y 17 (MQ below (cQi post D Y A) args s mc ms A) cd dd 65 [(0, .ref x0), (5, .ref x5), (6, .ref x6), (7, .ref x7), (9, .ref x9), (10, .ref x10), (11, .ref x11), (12, .ref x12), (13, .ref x13), (15, .int x15), (16, .int x16)] [] S) (x0 : Nat) (x5 : Nat) (x6 : Nat) (x7 : Nat) (x9 : Nat) (x10 : Nat) (x11 : Nat) (x12 : Nat) (x13 : Nat) (x15 : Int32) (x16 : Int32) (cd dd : Nat) (S : cS) (h : k_L_isCommitted_65 post dp mc ms R65 x0 x5 x6 x7 x9 x10 x11 x12 x13 x15 x16 cd dd S) : cG p l e (cRm 13 mc ms 310) s m args below meth c A D Y 17 (MQ below (cQi post D Y A) args s mc ms A) cd dd 65 [(0, .ref x0), (5, .ref x5), (6, .ref x6), (7, .ref x7), (9, .ref x9), (10, .ref x10), (11, .ref x11), (12, .ref x12), (13, .ref x13), (15, .int x15), (16, .int x16)] [] S := by
  unfold k_L_isCommitted_65 at h
  refine cg_iload C 10 rfl dL_isCommitted_65 ?_
  refine cg_bipush C (x := nI 30) rfl dL_isCommitted_67 ?_
  refine cg_icmp_ge C 88 (by decide) dL_isCommitted_69 (fun c_ => ?_) (fun c_ => ?_)
  · have h := h.1 c_
    refine cg_iconst C (x := nI 0) rfl dL_isCommitted_88 ?_
    refine cg_istore C (lv' := [(16, .int ((nI 0))), (0, .ref x0), (5, .ref x5), (6, .ref x6), (7, .ref x7), (9, .ref x9), (10, .ref x10), (11, .ref x11), (12, .ref x12), (13, .ref x13), (15, .int x15)]) (Nat.le_of_ble_eq_true rfl) rfl dL_isCommitted_89 ?_
    exact cg_sub [1, 2, 3, 4, 5, 6, 7, 8, 10, 0] rfl (tl_L_isCommitted_91 C hlt  x0 x5 x6 x7 x9 x10 x11 x12 x15 (((nI 0))) cd dd S h)
  · have h := h.2 c_
    refine cg_aload C 8 rfl dL_isCommitted_72 ?_
    refine cg_iload C 10 rfl dL_isCommitted_74 ?_
    refine cg_aload C 2 rfl dL_isCommitted_76 ?_
    refine cg_iload C 10 rfl dL_isCommitted_78 ?_
    obtain ⟨hc_80, h⟩ := h
    refine cg_ialoadR C hc_80 dL_isCommitted_80 ?_
    obtain ⟨hc_81, h⟩ := h
    refine cg_iastoreR C hc_81 dL_isCommitted_81 ?_
    refine cg_nm (fun S35 e_S35 => ?_)
    have h := h S35 e_S35
    obtain ⟨x16_36, e_x16_36⟩ : ∃ z : Int32, z = x16 + nI 1 := ⟨_, rfl⟩
    have h := h x16_36 e_x16_36
    refine cg_iinc C (lv' := [(16, .int x16_36), (0, .ref x0), (5, .ref x5), (6, .ref x6), (7, .ref x7), (9, .ref x9), (10, .ref x10), (11, .ref x11), (12, .ref x12), (13, .ref x13), (15, .int x15)]) 10 rfl (by rw [e_x16_36]; rfl) (Nat.le_of_ble_eq_true rfl) rfl dL_isCommitted_82 ?_
    refine cg_goto C 65 (by decide) dL_isCommitted_85 ?_
    exact cg_sub [1, 2, 3, 4, 5, 6, 7, 8, 9, 10, 0] rfl (hR65 x0 x5 x6 x7 x9 x10 x11 x12 x13 x15 x16_36 cd dd S35 h)
set_option maxRecDepth 20000 in
theorem tl_L_isCommitted_65 {mc ms : Nat} (C : cC p s m args meth c cL_isCommitted 17 (some .boolean) A D Y tp dp RL) (hlt : l.stackTraces = false) {post : Int32 → cS → Prop}   (x0 : Nat) (x5 : Nat) (x6 : Nat) (x7 : Nat) (x9 : Nat) (x10 : Nat) (x11 : Nat) (x12 : Nat) (x13 : Nat) (x15 : Int32) (x16 : Int32) (cd dd : Nat) (S : cS) (h : k_L_isCommitted_65L post dp mc ms  x0 x5 x6 x7 x9 x10 x11 x12 x13 x15 x16 cd dd S) : cG p l e (cRm 13 mc ms 310) s m args below meth c A D Y 17 (MQ below (cQi post D Y A) args s mc ms A) cd dd 65 [(0, .ref x0), (5, .ref x5), (6, .ref x6), (7, .ref x7), (9, .ref x9), (10, .ref x10), (11, .ref x11), (12, .ref x12), (13, .ref x13), (15, .int x15), (16, .int x16)] [] S :=
  h (fun y => cG p l e (cRm 13 mc ms 310) s m args below meth c A D Y 17 (MQ below (cQi post D Y A) args s mc ms A) (y.2.2.2.2.2.2.2.2.2.2.2.1) (y.2.2.2.2.2.2.2.2.2.2.2.2.1) 65 [(0, .ref (y.1)), (5, .ref (y.2.1)), (6, .ref (y.2.2.1)), (7, .ref (y.2.2.2.1)), (9, .ref (y.2.2.2.2.1)), (10, .ref (y.2.2.2.2.2.1)), (11, .ref (y.2.2.2.2.2.2.1)), (12, .ref (y.2.2.2.2.2.2.2.1)), (13, .ref (y.2.2.2.2.2.2.2.2.1)), (15, .int (y.2.2.2.2.2.2.2.2.2.1)), (16, .int (y.2.2.2.2.2.2.2.2.2.2.1))] [] (y.2.2.2.2.2.2.2.2.2.2.2.2.2)) (fun y hy => tb_L_isCommitted_65 C hlt  (fun b0 b1 b2 b3 b4 b5 b6 b7 b8 b9 b10 b11 b12 S z => z) (y.1) (y.2.1) (y.2.2.1) (y.2.2.2.1) (y.2.2.2.2.1) (y.2.2.2.2.2.1) (y.2.2.2.2.2.2.1) (y.2.2.2.2.2.2.2.1) (y.2.2.2.2.2.2.2.2.1) (y.2.2.2.2.2.2.2.2.2.1) (y.2.2.2.2.2.2.2.2.2.2.1) (y.2.2.2.2.2.2.2.2.2.2.2.1) (y.2.2.2.2.2.2.2.2.2.2.2.2.1) (y.2.2.2.2.2.2.2.2.2.2.2.2.2) hy)
end S_L_isCommitted
set_option maxHeartbeats 1000000 in
set_option maxRecDepth 20000 in
theorem t_L_isCommitted (l : Launch) (hlt : l.stackTraces = false) (mc ms : Nat) (x0 : Nat) (x1 : Nat) (x2 : Nat) (x3 : Nat) (x4 : Nat) (x5 : Nat) (x6 : Nat) (x7 : Nat) (x8 : Nat) (x9 : Nat) (x10 : Nat) (x11 : Nat) (x12 : Nat) (x13 : Nat) (x14 : Int32) (S : cS) (dp : Nat) {P : Int32 → cS → Prop} (h : k_L_isCommitted P dp mc ms x0 x1 x2 x3 x4 x5 x6 x7 x8 x9 x10 x11 x12 x13 x14 S) : cMet (cQi P) l yL_isCommitted cL_isCommitted 17 (some .boolean) 13 mc ms 310 [.ref x0, .ref x1, .ref x2, .ref x3, .ref x4, .ref x5, .ref x6, .ref x7, .ref x8, .ref x9, .ref x10, .ref x11, .ref x12, .ref x13, .int x14] S dp := by
  intro D Y tp sz
  refine cg_body (by decide +kernel) (Nat.le_of_ble_eq_true rfl) ?_
  intro p e s m args below meth c C
  generalize va_A (cWd Y S) sz = A at C ⊢
  have C : cC p s m args meth c cL_isCommitted 17 (some .boolean) A D Y tp dp RL := C
  refine cg_lv (lv' := [(0, .ref x0), (1, .ref x1), (2, .ref x2), (3, .ref x3), (4, .ref x4), (5, .ref x5), (6, .ref x6), (7, .ref x7), (8, .ref x8), (9, .ref x9), (10, .ref x10), (11, .ref x11), (12, .ref x12), (13, .ref x13), (14, .int x14)]) rfl ?_
  unfold k_L_isCommitted at h
  refine cg_iload C 14 rfl dL_isCommitted_0 ?_
  refine cg_if_ne C 260 (by decide) dL_isCommitted_2 (fun c_ => ?_) (fun c_ => ?_)
  · have h := h.1 c_
    refine cg_aload C 12 rfl dL_isCommitted_260 ?_
    refine cg_bipush C (x := nI 6) rfl dL_isCommitted_262 ?_
    obtain ⟨hc_264, h⟩ := h
    refine cg_ialoadR C hc_264 dL_isCommitted_264 ?_
    refine cg_iconst C (x := nI 1) rfl dL_isCommitted_265 ?_
    refine cg_icmp_eq C 276 (by decide) dL_isCommitted_266 (fun c_ => ?_) (fun c_ => ?_)
    · have h := h.1 c_
      exact cg_sub [0] rfl (tb_L_isCommitted_276 C hlt  x0 0 0 S h)
    · have h := h.2 c_
      refine cg_aload C 9 rfl dL_isCommitted_269 ?_
      refine cg_iconst C (x := nI 0) rfl dL_isCommitted_271 ?_
      obtain ⟨hc_272, h⟩ := h
      refine cg_ialoadR C hc_272 dL_isCommitted_272 ?_
      refine cg_if_ne C 292 (by decide) dL_isCommitted_273 (fun c_ => ?_) (fun c_ => ?_)
      · have h := h.1 c_
        refine cg_iload C 14 rfl dL_isCommitted_292 ?_
        refine cg_iconst C (x := nI 2) rfl dL_isCommitted_294 ?_
        refine cg_icmp_ne C 361 (by decide) dL_isCommitted_295 (fun c_ => ?_) (fun c_ => ?_)
        · have h := h.1 c_
          refine cg_aload C 12 rfl dL_isCommitted_361 ?_
          refine cg_aload C 9 rfl dL_isCommitted_363 ?_
          obtain ⟨mc4, ms5, hm_1, hm_2, h⟩ := h
          refine cg_callsr C (t_L_copy l mc4 ms5 x9 S dp h) cc_L_256 rfl ⟨by decide, by decide⟩ ⟨hm_1, hm_2⟩ rfl (Nat.le_of_ble_eq_true rfl) dL_isCommitted_365 (fun r_6 S_6 h => ?_)
          refine cg_aload C 10 rfl dL_isCommitted_368 ?_
          refine cg_aload C 11 rfl dL_isCommitted_370 ?_
          obtain ⟨hb_372, h⟩ := h
          refine cg_callsi C (t_L_writes l x12 r_6 x10 x11 S_6 dp h) cc_L_57 rfl ⟨by decide, by decide⟩ hb_372 rfl (Nat.le_of_ble_eq_true rfl) dL_isCommitted_372 (fun r_7 S_7 h => ?_)
          simp only [Nat.add_zero]
          refine cg_istore C (lv' := [(15, .int r_7), (0, .ref x0), (1, .ref x1), (2, .ref x2), (3, .ref x3), (4, .ref x4), (5, .ref x5), (6, .ref x6), (7, .ref x7), (8, .ref x8), (9, .ref x9), (10, .ref x10), (11, .ref x11), (12, .ref x12), (13, .ref x13), (14, .int x14)]) (Nat.le_of_ble_eq_true rfl) rfl dL_isCommitted_375 ?_
          refine cg_iload C 0 rfl dL_isCommitted_377 ?_
          refine cg_if_eq C 417 (by decide) dL_isCommitted_379 (fun c_ => ?_) (fun c_ => ?_)
          · have h := h.1 c_
            exact cg_sub [1, 10, 13, 0] rfl (tb_L_isCommitted_417 C hlt  x0 x9 x12 r_7 (0 + mc4) (0 + ms5) S_7 h)
          · have h := h.2 c_
            refine cg_iconst C (x := nI 0) rfl dL_isCommitted_382 ?_
            refine cg_istore C (lv' := [(16, .int ((nI 0))), (15, .int r_7), (0, .ref x0), (1, .ref x1), (2, .ref x2), (3, .ref x3), (4, .ref x4), (5, .ref x5), (6, .ref x6), (7, .ref x7), (8, .ref x8), (9, .ref x9), (10, .ref x10), (11, .ref x11), (12, .ref x12), (13, .ref x13), (14, .int x14)]) (Nat.le_of_ble_eq_true rfl) rfl dL_isCommitted_383 ?_
            exact cg_sub [2, 10, 11, 14, 1, 0] rfl (tl_L_isCommitted_385 C hlt  x0 x8 x9 x12 r_7 (((nI 0))) (0 + mc4) (0 + ms5) S_7 h)
        · have h := h.2 c_
          refine cg_iconst C (x := nI 0) rfl dL_isCommitted_298 ?_
          refine cg_istore C (lv' := [(15, .int ((nI 0))), (0, .ref x0), (1, .ref x1), (2, .ref x2), (3, .ref x3), (4, .ref x4), (5, .ref x5), (6, .ref x6), (7, .ref x7), (8, .ref x8), (9, .ref x9), (10, .ref x10), (11, .ref x11), (12, .ref x12), (13, .ref x13), (14, .int x14)]) (Nat.le_of_ble_eq_true rfl) rfl dL_isCommitted_299 ?_
          exact cg_sub [1, 7, 10, 14, 0] rfl (tl_L_isCommitted_301 C hlt  x0 x6 x9 x13 (((nI 0))) 0 0 S h)
      · have h := h.2 c_
        exact cg_sub [0] rfl (tb_L_isCommitted_276 C hlt  x0 0 0 S h)
  · have h := h.2 c_
    refine cg_aload C 12 rfl dL_isCommitted_5 ?_
    refine cg_bipush C (x := nI 6) rfl dL_isCommitted_7 ?_
    obtain ⟨hc_9, h⟩ := h
    refine cg_ialoadR C hc_9 dL_isCommitted_9 ?_
    refine cg_iconst C (x := nI 1) rfl dL_isCommitted_10 ?_
    refine cg_icmp_eq C 22 (by decide) dL_isCommitted_11 (fun c_ => ?_) (fun c_ => ?_)
    · have h := h.1 c_
      exact cg_sub [0] rfl (tb_L_isCommitted_22 C hlt  x0 0 0 S h)
    · have h := h.2 c_
      refine cg_aload C 9 rfl dL_isCommitted_14 ?_
      refine cg_iconst C (x := nI 0) rfl dL_isCommitted_16 ?_
      obtain ⟨hc_17, h⟩ := h
      refine cg_ialoadR C hc_17 dL_isCommitted_17 ?_
      refine cg_iconst C (x := nI 1) rfl dL_isCommitted_18 ?_
      refine cg_icmp_ne C 38 (by decide) dL_isCommitted_19 (fun c_ => ?_) (fun c_ => ?_)
      · have h := h.1 c_
        refine cg_aload_n C (i := 1) rfl 1 rfl dL_isCommitted_38 ?_
        refine cg_aload_n C (i := 2) rfl 2 rfl dL_isCommitted_39 ?_
        refine cg_aload_n C (i := 3) rfl 3 rfl dL_isCommitted_40 ?_
        refine cg_aload C 4 rfl dL_isCommitted_41 ?_
        refine cg_aload C 5 rfl dL_isCommitted_43 ?_
        refine cg_aload C 6 rfl dL_isCommitted_45 ?_
        refine cg_aload C 7 rfl dL_isCommitted_47 ?_
        refine cg_aload C 9 rfl dL_isCommitted_49 ?_
        refine cg_aload C 10 rfl dL_isCommitted_51 ?_
        refine cg_aload C 11 rfl dL_isCommitted_53 ?_
        refine cg_aload C 12 rfl dL_isCommitted_55 ?_
        obtain ⟨hb_57, h⟩ := h
        refine cg_callsi C (t_L_flushed l x1 x2 x3 x4 x5 x6 x7 x9 x10 x11 x12 S dp h) cc_L_245 rfl ⟨by decide, by decide⟩ hb_57 rfl (Nat.le_of_ble_eq_true rfl) dL_isCommitted_57 (fun r_25 S_25 h => ?_)
        simp only [Nat.add_zero]
        refine cg_istore C (lv' := [(15, .int r_25), (0, .ref x0), (1, .ref x1), (2, .ref x2), (3, .ref x3), (4, .ref x4), (5, .ref x5), (6, .ref x6), (7, .ref x7), (8, .ref x8), (9, .ref x9), (10, .ref x10), (11, .ref x11), (12, .ref x12), (13, .ref x13), (14, .int x14)]) (Nat.le_of_ble_eq_true rfl) rfl dL_isCommitted_60 ?_
        refine cg_iconst C (x := nI 0) rfl dL_isCommitted_62 ?_
        refine cg_istore C (lv' := [(16, .int ((nI 0))), (15, .int r_25), (0, .ref x0), (1, .ref x1), (2, .ref x2), (3, .ref x3), (4, .ref x4), (5, .ref x5), (6, .ref x6), (7, .ref x7), (8, .ref x8), (9, .ref x9), (10, .ref x10), (11, .ref x11), (12, .ref x12), (13, .ref x13), (14, .int x14)]) (Nat.le_of_ble_eq_true rfl) rfl dL_isCommitted_63 ?_
        exact cg_sub [2, 7, 8, 9, 11, 12, 13, 14, 15, 1, 0] rfl (tl_L_isCommitted_65 C hlt  x0 x5 x6 x7 x9 x10 x11 x12 x13 r_25 (((nI 0))) 0 0 S_25 h)
      · have h := h.2 c_
        exact cg_sub [0] rfl (tb_L_isCommitted_22 C hlt  x0 0 0 S h)
section S_L_opens
variable {p : Program} {l : Launch} {e : Env} {s : State} {m : MethodId} {args : Array Value} {below : List Frame} {meth : Method} {c : Code} {A : Nat → Prop} {D : va_G} {Y : cY} {tp dp : Nat}
set_option maxRecDepth 20000 in
theorem tb_L_opens_59 {mc ms : Nat} (C : cC p s m args meth c cL_opens 7 (some .boolean) A D Y tp dp RL) (hlt : l.stackTraces = false) {post : Int32 → cS → Prop} {R59 : Nat → Nat → Nat → Nat → Nat → Nat → Int32 → Nat → Nat → cS → Prop} (hR59 : ∀ (x0 : Nat) (x1 : Nat) (x2 : Nat) (x3 : Nat) (x4 : Nat) (x5 : Nat) (x6 : Int32) (cd dd : Nat) (S : cS), R59 x0 x1 x2 x3 x4 x5 x6 cd dd S → cG p l e (cRm 13 mc ms 310) s m args below meth c A D Y 7 (MQ below (cQi post D Y A) args s mc ms A) cd dd 59 [(0, .ref x0), (1, .ref x1), (2, .ref x2), (3, .ref x3), (4, .ref x4), (5, .ref x5), (6, .int x6)] [] S) (x0 : Nat) (x1 : Nat) (x2 : Nat) (x3 : Nat) (x4 : Nat) (x5 : Nat) (x6 : Int32) (cd dd : Nat) (S : cS) (h : k_L_opens_59 post dp mc ms R59 x0 x1 x2 x3 x4 x5 x6 cd dd S) : cG p l e (cRm 13 mc ms 310) s m args below meth c A D Y 7 (MQ below (cQi post D Y A) args s mc ms A) cd dd 59 [(0, .ref x0), (1, .ref x1), (2, .ref x2), (3, .ref x3), (4, .ref x4), (5, .ref x5), (6, .int x6)] [] S := by
  unfold k_L_opens_59 at h
  refine cg_iload C 6 rfl dL_opens_59 ?_
  refine cg_aload C 5 rfl dL_opens_61 ?_
  refine cg_iconst C (x := nI 3) rfl dL_opens_63 ?_
  obtain ⟨hc_64, h⟩ := h
  refine cg_ialoadR C hc_64 dL_opens_64 ?_
  refine cg_icmp_ge C 113 (by decide) dL_opens_65 (fun c_ => ?_) (fun c_ => ?_)
  · have h := h.1 c_
    refine cg_aload_n C (i := 0) rfl 0 rfl dL_opens_113 ?_
    refine cg_bipush C (x := nI 6) rfl dL_opens_114 ?_
    obtain ⟨mc4, ms5, hm_1, hm_2, h⟩ := h
    refine cg_callsWi C (tw_L_did l hlt mc4 ms5 x0 ((nI 6)) S dp h) cc_L_205 rfl ⟨by decide, by decide⟩ ⟨hm_1, hm_2⟩ rfl (Nat.le_of_ble_eq_true rfl) dL_opens_116 (fun r_6 S_6 h => ?_)
    refine cg_aload C 5 rfl dL_opens_119 ?_
    refine cg_iconst C (x := nI 3) rfl dL_opens_121 ?_
    obtain ⟨hc_122, h⟩ := h
    refine cg_ialoadR C hc_122 dL_opens_122 ?_
    refine cg_icmp_ne C 130 (by decide) dL_opens_123 (fun c_ => ?_) (fun c_ => ?_)
    · have h := h.1 c_
      refine cg_iconst C (x := nI 0) rfl dL_opens_130 ?_
      obtain ⟨hb_131, h⟩ := h
      refine cg_cast (.int (bI false)) rfl ?_
      exact cg_zret C (bI_nar _) h dL_opens_131 hb_131.1 hb_131.2
    · have h := h.2 c_
      refine cg_iconst C (x := nI 1) rfl dL_opens_126 ?_
      refine cg_goto C 131 (by decide) dL_opens_127 ?_
      obtain ⟨hb_131, h⟩ := h
      refine cg_cast (.int (bI true)) rfl ?_
      exact cg_zret C (bI_nar _) h dL_opens_131 hb_131.1 hb_131.2
  · have h := h.2 c_
    refine cg_aload_n C (i := 3) rfl 3 rfl dL_opens_68 ?_
    refine cg_iload C 6 rfl dL_opens_69 ?_
    refine cg_aload C 4 rfl dL_opens_71 ?_
    refine cg_iconst C (x := nI 2) rfl dL_opens_73 ?_
    refine cg_iload C 6 rfl dL_opens_74 ?_
    refine cg_iadd C dL_opens_76 ?_
    obtain ⟨hc_77, h⟩ := h
    refine cg_ialoadR C hc_77 dL_opens_77 ?_
    obtain ⟨hc_78, h⟩ := h
    refine cg_iastoreR C hc_78 dL_opens_78 ?_
    refine cg_nm (fun S7 e_S7 => ?_)
    have h := h S7 e_S7
    refine cg_aload_n C (i := 1) rfl 1 rfl dL_opens_79 ?_
    refine cg_aload_n C (i := 3) rfl 3 rfl dL_opens_80 ?_
    refine cg_iload C 6 rfl dL_opens_81 ?_
    obtain ⟨hc_83, h⟩ := h
    refine cg_ialoadR C hc_83 dL_opens_83 ?_
    refine cg_aload C 4 rfl dL_opens_84 ?_
    refine cg_bipush C (x := nI 32) rfl dL_opens_86 ?_
    refine cg_aload_n C (i := 3) rfl 3 rfl dL_opens_88 ?_
    refine cg_iload C 6 rfl dL_opens_89 ?_
    obtain ⟨hc_91, h⟩ := h
    refine cg_ialoadR C hc_91 dL_opens_91 ?_
    refine cg_iadd C dL_opens_92 ?_
    obtain ⟨hc_93, h⟩ := h
    refine cg_ialoadR C hc_93 dL_opens_93 ?_
    obtain ⟨hc_94, h⟩ := h
    refine cg_iastoreR C hc_94 dL_opens_94 ?_
    refine cg_nm (fun S8 e_S8 => ?_)
    have h := h S8 e_S8
    refine cg_aload_n C (i := 2) rfl 2 rfl dL_opens_95 ?_
    refine cg_aload_n C (i := 3) rfl 3 rfl dL_opens_96 ?_
    refine cg_iload C 6 rfl dL_opens_97 ?_
    obtain ⟨hc_99, h⟩ := h
    refine cg_ialoadR C hc_99 dL_opens_99 ?_
    refine cg_aload_n C (i := 1) rfl 1 rfl dL_opens_100 ?_
    refine cg_aload_n C (i := 3) rfl 3 rfl dL_opens_101 ?_
    refine cg_iload C 6 rfl dL_opens_102 ?_
    obtain ⟨hc_104, h⟩ := h
    refine cg_ialoadR C hc_104 dL_opens_104 ?_
    obtain ⟨hc_105, h⟩ := h
    refine cg_ialoadR C hc_105 dL_opens_105 ?_
    obtain ⟨hc_106, h⟩ := h
    refine cg_iastoreR C hc_106 dL_opens_106 ?_
    refine cg_nm (fun S9 e_S9 => ?_)
    have h := h S9 e_S9
    obtain ⟨x6_10, e_x6_10⟩ : ∃ z : Int32, z = x6 + nI 1 := ⟨_, rfl⟩
    have h := h x6_10 e_x6_10
    refine cg_iinc C (lv' := [(6, .int x6_10), (0, .ref x0), (1, .ref x1), (2, .ref x2), (3, .ref x3), (4, .ref x4), (5, .ref x5)]) 6 rfl (by rw [e_x6_10]; rfl) (Nat.le_of_ble_eq_true rfl) rfl dL_opens_107 ?_
    refine cg_goto C 59 (by decide) dL_opens_110 ?_
    exact cg_sub [1, 2, 3, 4, 5, 6, 0] rfl (hR59 x0 x1 x2 x3 x4 x5 x6_10 cd dd S9 h)
set_option maxRecDepth 20000 in
theorem tl_L_opens_59 {mc ms : Nat} (C : cC p s m args meth c cL_opens 7 (some .boolean) A D Y tp dp RL) (hlt : l.stackTraces = false) {post : Int32 → cS → Prop}   (x0 : Nat) (x1 : Nat) (x2 : Nat) (x3 : Nat) (x4 : Nat) (x5 : Nat) (x6 : Int32) (cd dd : Nat) (S : cS) (h : k_L_opens_59L post dp mc ms  x0 x1 x2 x3 x4 x5 x6 cd dd S) : cG p l e (cRm 13 mc ms 310) s m args below meth c A D Y 7 (MQ below (cQi post D Y A) args s mc ms A) cd dd 59 [(0, .ref x0), (1, .ref x1), (2, .ref x2), (3, .ref x3), (4, .ref x4), (5, .ref x5), (6, .int x6)] [] S :=
  h (fun y => cG p l e (cRm 13 mc ms 310) s m args below meth c A D Y 7 (MQ below (cQi post D Y A) args s mc ms A) (y.2.2.2.2.2.2.2.1) (y.2.2.2.2.2.2.2.2.1) 59 [(0, .ref (y.1)), (1, .ref (y.2.1)), (2, .ref (y.2.2.1)), (3, .ref (y.2.2.2.1)), (4, .ref (y.2.2.2.2.1)), (5, .ref (y.2.2.2.2.2.1)), (6, .int (y.2.2.2.2.2.2.1))] [] (y.2.2.2.2.2.2.2.2.2)) (fun y hy => tb_L_opens_59 C hlt  (fun b0 b1 b2 b3 b4 b5 b6 b7 b8 S z => z) (y.1) (y.2.1) (y.2.2.1) (y.2.2.2.1) (y.2.2.2.2.1) (y.2.2.2.2.2.1) (y.2.2.2.2.2.2.1) (y.2.2.2.2.2.2.2.1) (y.2.2.2.2.2.2.2.2.1) (y.2.2.2.2.2.2.2.2.2) hy)
set_option maxRecDepth 20000 in
theorem tb_L_opens_55 {mc ms : Nat} (C : cC p s m args meth c cL_opens 7 (some .boolean) A D Y tp dp RL) (hlt : l.stackTraces = false) {post : Int32 → cS → Prop}   (x0 : Nat) (x1 : Nat) (x2 : Nat) (x3 : Nat) (x4 : Nat) (x5 : Nat) (t0 : Int32) (t1 : Int32) (t2 : Nat) (cd dd : Nat) (S : cS) (h : k_L_opens_55 post dp mc ms  x0 x1 x2 x3 x4 x5 t0 t1 t2 cd dd S) : cG p l e (cRm 13 mc ms 310) s m args below meth c A D Y 7 (MQ below (cQi post D Y A) args s mc ms A) cd dd 55 [(0, .ref x0), (1, .ref x1), (2, .ref x2), (3, .ref x3), (4, .ref x4), (5, .ref x5)] [.int t0, .int t1, .ref t2] S := by
  unfold k_L_opens_55 at h
  obtain ⟨hc_55, h⟩ := h
  refine cg_iastoreR C hc_55 dL_opens_55 ?_
  refine cg_nm (fun S3 e_S3 => ?_)
  have h := h S3 e_S3
  refine cg_iconst C (x := nI 0) rfl dL_opens_56 ?_
  refine cg_istore C (lv' := [(6, .int ((nI 0))), (0, .ref x0), (1, .ref x1), (2, .ref x2), (3, .ref x3), (4, .ref x4), (5, .ref x5)]) (Nat.le_of_ble_eq_true rfl) rfl dL_opens_57 ?_
  exact cg_sub [1, 2, 3, 4, 5, 6, 0] rfl (tl_L_opens_59 C hlt  x0 x1 x2 x3 x4 x5 (((nI 0))) cd dd S3 h)
end S_L_opens
set_option maxHeartbeats 1000000 in
set_option maxRecDepth 20000 in
theorem t_L_opens (l : Launch) (hlt : l.stackTraces = false) (mc ms : Nat) (x0 : Nat) (x1 : Nat) (x2 : Nat) (x3 : Nat) (x4 : Nat) (x5 : Nat) (S : cS) (dp : Nat) {P : Int32 → cS → Prop} (h : k_L_opens P dp mc ms x0 x1 x2 x3 x4 x5 S) : cMet (cQi P) l yL_opens cL_opens 7 (some .boolean) 13 mc ms 310 [.ref x0, .ref x1, .ref x2, .ref x3, .ref x4, .ref x5] S dp := by
  intro D Y tp sz
  refine cg_body (by decide +kernel) (Nat.le_of_ble_eq_true rfl) ?_
  intro p e s m args below meth c C
  generalize va_A (cWd Y S) sz = A at C ⊢
  have C : cC p s m args meth c cL_opens 7 (some .boolean) A D Y tp dp RL := C
  refine cg_lv (lv' := [(0, .ref x0), (1, .ref x1), (2, .ref x2), (3, .ref x3), (4, .ref x4), (5, .ref x5)]) rfl ?_
  unfold k_L_opens at h
  refine cg_aload C 5 rfl dL_opens_0 ?_
  refine cg_bipush C (x := nI 6) rfl dL_opens_2 ?_
  obtain ⟨hc_4, h⟩ := h
  refine cg_ialoadR C hc_4 dL_opens_4 ?_
  refine cg_if_ne C 25 (by decide) dL_opens_5 (fun c_ => ?_) (fun c_ => ?_)
  · have h := h.1 c_
    refine cg_aload C 5 rfl dL_opens_25 ?_
    refine cg_bipush C (x := nI 6) rfl dL_opens_27 ?_
    refine cg_iconst C (x := nI 0) rfl dL_opens_29 ?_
    obtain ⟨hc_30, h⟩ := h
    refine cg_iastoreR C hc_30 dL_opens_30 ?_
    refine cg_nm (fun S1 e_S1 => ?_)
    have h := h S1 e_S1
    refine cg_aload C 5 rfl dL_opens_31 ?_
    refine cg_iconst C (x := nI 5) rfl dL_opens_33 ?_
    refine cg_iconst C (x := (-1)) rfl dL_opens_34 ?_
    obtain ⟨hc_35, h⟩ := h
    refine cg_iastoreR C hc_35 dL_opens_35 ?_
    refine cg_nm (fun S2 e_S2 => ?_)
    have h := h S2 e_S2
    refine cg_aload C 5 rfl dL_opens_36 ?_
    refine cg_iconst C (x := nI 3) rfl dL_opens_38 ?_
    refine cg_aload C 4 rfl dL_opens_39 ?_
    refine cg_iconst C (x := nI 0) rfl dL_opens_41 ?_
    obtain ⟨hc_42, h⟩ := h
    refine cg_ialoadR C hc_42 dL_opens_42 ?_
    refine cg_iconst C (x := nI 1) rfl dL_opens_43 ?_
    refine cg_icmp_ne C 54 (by decide) dL_opens_44 (fun c_ => ?_) (fun c_ => ?_)
    · have h := h.1 c_
      refine cg_iconst C (x := nI 0) rfl dL_opens_54 ?_
      exact cg_sub [0, 1, 2, 3, 4, 5] rfl (tb_L_opens_55 C hlt  x0 x1 x2 x3 x4 x5 ((nI 0)) ((nI 3)) x5 0 0 S2 h)
    · have h := h.2 c_
      refine cg_aload C 4 rfl dL_opens_47 ?_
      refine cg_iconst C (x := nI 1) rfl dL_opens_49 ?_
      obtain ⟨hc_50, h⟩ := h
      refine cg_ialoadR C hc_50 dL_opens_50 ?_
      refine cg_goto C 55 (by decide) dL_opens_51 ?_
      exact cg_sub [0, 1, 2, 3, 4, 5] rfl (tb_L_opens_55 C hlt  x0 x1 x2 x3 x4 x5 ((cI S2 x4 ((nI 1)).toNatClampNeg)) ((nI 3)) x5 0 0 S2 h)
  · have h := h.2 c_
    refine cg_aload_n C (i := 0) rfl 0 rfl dL_opens_8 ?_
    refine cg_bipush C (x := nI 6) rfl dL_opens_9 ?_
    obtain ⟨mc11, ms12, hm_1, hm_2, h⟩ := h
    refine cg_callsWi C (tw_L_did l hlt mc11 ms12 x0 ((nI 6)) S dp h) cc_L_205 rfl ⟨by decide, by decide⟩ ⟨hm_1, hm_2⟩ rfl (Nat.le_of_ble_eq_true rfl) dL_opens_11 (fun r_13 S_13 h => ?_)
    refine cg_bipush C (x := (-7)) rfl dL_opens_14 ?_
    refine cg_icmp_ne C 23 (by decide) dL_opens_16 (fun c_ => ?_) (fun c_ => ?_)
    · have h := h.1 c_
      refine cg_iconst C (x := nI 0) rfl dL_opens_23 ?_
      obtain ⟨hb_24, h⟩ := h
      refine cg_cast (.int (bI false)) rfl ?_
      exact cg_zret C (bI_nar _) h dL_opens_24 hb_24.1 hb_24.2
    · have h := h.2 c_
      refine cg_iconst C (x := nI 1) rfl dL_opens_19 ?_
      refine cg_goto C 24 (by decide) dL_opens_20 ?_
      obtain ⟨hb_24, h⟩ := h
      refine cg_cast (.int (bI true)) rfl ?_
      exact cg_zret C (bI_nar _) h dL_opens_24 hb_24.1 hb_24.2
section S_L_looks
variable {p : Program} {l : Launch} {e : Env} {s : State} {m : MethodId} {args : Array Value} {below : List Frame} {meth : Method} {c : Code} {A : Nat → Prop} {D : va_G} {Y : cY} {tp dp : Nat}
set_option maxRecDepth 20000 in
theorem tb_L_looks_138 {mc ms : Nat} (C : cC p s m args meth c cL_looks 9 (some .boolean) A D Y tp dp RL) (hlt : l.stackTraces = false) {post : Int32 → cS → Prop}   (x0 : Nat) (x5 : Nat) (x7 : Int32) (cd dd : Nat) (S : cS) (h : k_L_looks_138 post dp mc ms  x0 x5 x7 cd dd S) : cG p l e (cRm 12 mc ms 277) s m args below meth c A D Y 9 (MQ below (cQi post D Y A) args s mc ms A) cd dd 138 [(0, .ref x0), (5, .ref x5), (7, .int x7)] [] S := by
  unfold k_L_looks_138 at h
  refine cg_aload_n C (i := 0) rfl 0 rfl dL_looks_138 ?_
  refine cg_iload C 2 rfl dL_looks_139 ?_
  obtain ⟨mc4, ms5, hm_1, hm_2, h⟩ := h
  refine cg_callsWi C (tw_L_looked l hlt mc4 ms5 x0 x7 S dp h) cc_L_260 rfl ⟨by decide, by decide⟩ ⟨hm_1, hm_2⟩ rfl (Nat.le_of_ble_eq_true rfl) dL_looks_141 (fun r_6 S_6 h => ?_)
  refine cg_aload C 1 rfl dL_looks_144 ?_
  refine cg_bipush C (x := nI 8) rfl dL_looks_146 ?_
  obtain ⟨hc_148, h⟩ := h
  refine cg_ialoadR C hc_148 dL_looks_148 ?_
  refine cg_iconst C (x := nI 1) rfl dL_looks_149 ?_
  refine cg_isub C dL_looks_150 ?_
  refine cg_icmp_ne C 158 (by decide) dL_looks_151 (fun c_ => ?_) (fun c_ => ?_)
  · have h := h.1 c_
    refine cg_iconst C (x := nI 0) rfl dL_looks_158 ?_
    obtain ⟨hb_159, h⟩ := h
    refine cg_cast (.int (bI false)) rfl ?_
    exact cg_zret C (bI_nar _) h dL_looks_159 hb_159.1 hb_159.2
  · have h := h.2 c_
    refine cg_iconst C (x := nI 1) rfl dL_looks_154 ?_
    refine cg_goto C 159 (by decide) dL_looks_155 ?_
    obtain ⟨hb_159, h⟩ := h
    refine cg_cast (.int (bI true)) rfl ?_
    exact cg_zret C (bI_nar _) h dL_looks_159 hb_159.1 hb_159.2
set_option maxRecDepth 20000 in
theorem tb_L_looks_105 {mc ms : Nat} (C : cC p s m args meth c cL_looks 9 (some .boolean) A D Y tp dp RL) (hlt : l.stackTraces = false) {post : Int32 → cS → Prop} {R105 : Nat → Nat → Nat → Nat → Int32 → Int32 → Nat → Nat → cS → Prop} (hR105 : ∀ (x0 : Nat) (x3 : Nat) (x4 : Nat) (x5 : Nat) (x7 : Int32) (x8 : Int32) (cd dd : Nat) (S : cS), R105 x0 x3 x4 x5 x7 x8 cd dd S → cG p l e (cRm 12 mc ms 277) s m args below meth c A D Y 9 (MQ below (cQi post D Y A) args s mc ms A) cd dd 105 [(0, .ref x0), (3, .ref x3), (4, .ref x4), (5, .ref x5), (7, .int x7), (8, .int x8)] [] S) (x0 : Nat) (x3 : Nat) (x4 : Nat) (x5 : Nat) (x7 : Int32) (x8 : Int32) (cd dd : Nat) (S : cS) (h : k_L_looks_105 post dp mc ms R105 x0 x3 x4 x5 x7 x8 cd dd S) : cG p l e (cRm 12 mc ms 277) s m args below meth c A D Y 9 (MQ below (cQi post D Y A) args s mc ms A) cd dd 105 [(0, .ref x0), (3, .ref x3), (4, .ref x4), (5, .ref x5), (7, .int x7), (8, .int x8)] [] S := by
  unfold k_L_looks_105 at h
  refine cg_iload C 5 rfl dL_looks_105 ?_
  refine cg_bipush C (x := nI 62) rfl dL_looks_107 ?_
  refine cg_icmp_ge C 138 (by decide) dL_looks_109 (fun c_ => ?_) (fun c_ => ?_)
  · have h := h.1 c_
    exact cg_sub [0, 3, 4] rfl (tb_L_looks_138 C hlt  x0 x5 x7 cd dd S h)
  · have h := h.2 c_
    refine cg_aload_n C (i := 3) rfl 1 rfl dL_looks_112 ?_
    refine cg_iconst C (x := nI 0) rfl dL_looks_113 ?_
    obtain ⟨hc_114, h⟩ := h
    refine cg_ialoadR C hc_114 dL_looks_114 ?_
    refine cg_iconst C (x := nI 1) rfl dL_looks_115 ?_
    refine cg_icmp_ne C 138 (by decide) dL_looks_116 (fun c_ => ?_) (fun c_ => ?_)
    · have h := h.1 c_
      exact cg_sub [0, 3, 4] rfl (tb_L_looks_138 C hlt  x0 x5 x7 cd dd S h)
    · have h := h.2 c_
      refine cg_aload C 2 rfl dL_looks_119 ?_
      refine cg_iconst C (x := nI 2) rfl dL_looks_121 ?_
      refine cg_iload C 5 rfl dL_looks_122 ?_
      refine cg_iadd C dL_looks_124 ?_
      refine cg_aload_n C (i := 3) rfl 1 rfl dL_looks_125 ?_
      refine cg_iconst C (x := nI 2) rfl dL_looks_126 ?_
      refine cg_iload C 5 rfl dL_looks_127 ?_
      refine cg_iadd C dL_looks_129 ?_
      obtain ⟨hc_130, h⟩ := h
      refine cg_ialoadR C hc_130 dL_looks_130 ?_
      obtain ⟨hc_131, h⟩ := h
      refine cg_iastoreR C hc_131 dL_looks_131 ?_
      refine cg_nm (fun S7 e_S7 => ?_)
      have h := h S7 e_S7
      obtain ⟨x8_8, e_x8_8⟩ : ∃ z : Int32, z = x8 + nI 1 := ⟨_, rfl⟩
      have h := h x8_8 e_x8_8
      refine cg_iinc C (lv' := [(8, .int x8_8), (0, .ref x0), (3, .ref x3), (4, .ref x4), (5, .ref x5), (7, .int x7)]) 5 rfl (by rw [e_x8_8]; rfl) (Nat.le_of_ble_eq_true rfl) rfl dL_looks_132 ?_
      refine cg_goto C 105 (by decide) dL_looks_135 ?_
      exact cg_sub [1, 2, 3, 4, 5, 0] rfl (hR105 x0 x3 x4 x5 x7 x8_8 cd dd S7 h)
set_option maxRecDepth 20000 in
theorem tl_L_looks_105 {mc ms : Nat} (C : cC p s m args meth c cL_looks 9 (some .boolean) A D Y tp dp RL) (hlt : l.stackTraces = false) {post : Int32 → cS → Prop}   (x0 : Nat) (x3 : Nat) (x4 : Nat) (x5 : Nat) (x7 : Int32) (x8 : Int32) (cd dd : Nat) (S : cS) (h : k_L_looks_105L post dp mc ms  x0 x3 x4 x5 x7 x8 cd dd S) : cG p l e (cRm 12 mc ms 277) s m args below meth c A D Y 9 (MQ below (cQi post D Y A) args s mc ms A) cd dd 105 [(0, .ref x0), (3, .ref x3), (4, .ref x4), (5, .ref x5), (7, .int x7), (8, .int x8)] [] S :=
  h (fun y => cG p l e (cRm 12 mc ms 277) s m args below meth c A D Y 9 (MQ below (cQi post D Y A) args s mc ms A) (y.2.2.2.2.2.2.1) (y.2.2.2.2.2.2.2.1) 105 [(0, .ref (y.1)), (3, .ref (y.2.1)), (4, .ref (y.2.2.1)), (5, .ref (y.2.2.2.1)), (7, .int (y.2.2.2.2.1)), (8, .int (y.2.2.2.2.2.1))] [] (y.2.2.2.2.2.2.2.2)) (fun y hy => tb_L_looks_105 C hlt  (fun b0 b1 b2 b3 b4 b5 b6 b7 S z => z) (y.1) (y.2.1) (y.2.2.1) (y.2.2.2.1) (y.2.2.2.2.1) (y.2.2.2.2.2.1) (y.2.2.2.2.2.2.1) (y.2.2.2.2.2.2.2.1) (y.2.2.2.2.2.2.2.2) hy)
set_option maxRecDepth 20000 in
theorem tb_L_looks_101 {mc ms : Nat} (C : cC p s m args meth c cL_looks 9 (some .boolean) A D Y tp dp RL) (hlt : l.stackTraces = false) {post : Int32 → cS → Prop}   (x0 : Nat) (x3 : Nat) (x4 : Nat) (x5 : Nat) (x7 : Int32) (t0 : Int32) (t1 : Int32) (t2 : Nat) (cd dd : Nat) (S : cS) (h : k_L_looks_101 post dp mc ms  x0 x3 x4 x5 x7 t0 t1 t2 cd dd S) : cG p l e (cRm 12 mc ms 277) s m args below meth c A D Y 9 (MQ below (cQi post D Y A) args s mc ms A) cd dd 101 [(0, .ref x0), (3, .ref x3), (4, .ref x4), (5, .ref x5), (7, .int x7)] [.int t0, .int t1, .ref t2] S := by
  unfold k_L_looks_101 at h
  obtain ⟨hc_101, h⟩ := h
  refine cg_iastoreR C hc_101 dL_looks_101 ?_
  refine cg_nm (fun S3 e_S3 => ?_)
  have h := h S3 e_S3
  refine cg_iconst C (x := nI 0) rfl dL_looks_102 ?_
  refine cg_istore C (lv' := [(8, .int ((nI 0))), (0, .ref x0), (3, .ref x3), (4, .ref x4), (5, .ref x5), (7, .int x7)]) (Nat.le_of_ble_eq_true rfl) rfl dL_looks_103 ?_
  exact cg_sub [1, 2, 3, 4, 5, 0] rfl (tl_L_looks_105 C hlt  x0 x3 x4 x5 x7 (((nI 0))) cd dd S3 h)
set_option maxRecDepth 20000 in
theorem tb_L_looks_12 {mc ms : Nat} (C : cC p s m args meth c cL_looks 9 (some .boolean) A D Y tp dp RL) (hlt : l.stackTraces = false) {post : Int32 → cS → Prop}   (x0 : Nat) (x1 : Nat) (x2 : Nat) (x3 : Nat) (x4 : Nat) (x5 : Nat) (t0 : Int32) (cd dd : Nat) (S : cS) (h : k_L_looks_12 post dp mc ms  x0 x1 x2 x3 x4 x5 t0 cd dd S) : cG p l e (cRm 12 mc ms 277) s m args below meth c A D Y 9 (MQ below (cQi post D Y A) args s mc ms A) cd dd 12 [(0, .ref x0), (1, .ref x1), (2, .ref x2), (3, .ref x3), (4, .ref x4), (5, .ref x5)] [.int t0] S := by
  unfold k_L_looks_12 at h
  refine cg_istore C (lv' := [(7, .int t0), (0, .ref x0), (1, .ref x1), (2, .ref x2), (3, .ref x3), (4, .ref x4), (5, .ref x5)]) (Nat.le_of_ble_eq_true rfl) rfl dL_looks_12 ?_
  refine cg_aload C 6 rfl dL_looks_14 ?_
  refine cg_bipush C (x := nI 6) rfl dL_looks_16 ?_
  obtain ⟨hc_18, h⟩ := h
  refine cg_ialoadR C hc_18 dL_looks_18 ?_
  refine cg_iconst C (x := nI 1) rfl dL_looks_19 ?_
  refine cg_icmp_ne C 40 (by decide) dL_looks_20 (fun c_ => ?_) (fun c_ => ?_)
  · have h := h.1 c_
    refine cg_aload C 5 rfl dL_looks_40 ?_
    refine cg_iconst C (x := nI 0) rfl dL_looks_42 ?_
    obtain ⟨hc_43, h⟩ := h
    refine cg_ialoadR C hc_43 dL_looks_43 ?_
    refine cg_if_le C 49 (by decide) dL_looks_44 (fun c_ => ?_) (fun c_ => ?_)
    · have h := h.1 c_
      refine cg_aload C 6 rfl dL_looks_49 ?_
      refine cg_bipush C (x := nI 8) rfl dL_looks_51 ?_
      refine cg_dup2 C rfl rfl dL_looks_53 ?_
      obtain ⟨hc_54, h⟩ := h
      refine cg_ialoadR C hc_54 dL_looks_54 ?_
      refine cg_iconst C (x := nI 1) rfl dL_looks_55 ?_
      refine cg_iadd C dL_looks_56 ?_
      obtain ⟨hc_57, h⟩ := h
      refine cg_iastoreR C hc_57 dL_looks_57 ?_
      refine cg_nm (fun S1 e_S1 => ?_)
      have h := h S1 e_S1
      refine cg_aload C 5 rfl dL_looks_58 ?_
      refine cg_iconst C (x := nI 0) rfl dL_looks_60 ?_
      refine cg_aload C 6 rfl dL_looks_61 ?_
      refine cg_bipush C (x := nI 8) rfl dL_looks_63 ?_
      obtain ⟨hc_65, h⟩ := h
      refine cg_ialoadR C hc_65 dL_looks_65 ?_
      obtain ⟨hc_66, h⟩ := h
      refine cg_iastoreR C hc_66 dL_looks_66 ?_
      refine cg_nm (fun S2 e_S2 => ?_)
      have h := h S2 e_S2
      refine cg_iload C 0 rfl dL_looks_67 ?_
      refine cg_if_eq C 84 (by decide) dL_looks_69 (fun c_ => ?_) (fun c_ => ?_)
      · have h := h.1 c_
        refine cg_aload C 5 rfl dL_looks_84 ?_
        refine cg_iconst C (x := nI 1) rfl dL_looks_86 ?_
        refine cg_aload_n C (i := 3) rfl 4 rfl dL_looks_87 ?_
        refine cg_iconst C (x := nI 0) rfl dL_looks_88 ?_
        obtain ⟨hc_89, h⟩ := h
        refine cg_ialoadR C hc_89 dL_looks_89 ?_
        refine cg_iconst C (x := nI 1) rfl dL_looks_90 ?_
        refine cg_icmp_ne C 100 (by decide) dL_looks_91 (fun c_ => ?_) (fun c_ => ?_)
        · have h := h.1 c_
          refine cg_iconst C (x := nI 0) rfl dL_looks_100 ?_
          exact cg_sub [1, 4, 5, 6, 0] rfl (tb_L_looks_101 C hlt  x0 x3 x4 x5 t0 ((nI 0)) ((nI 1)) x4 cd dd S2 h)
        · have h := h.2 c_
          refine cg_aload_n C (i := 3) rfl 4 rfl dL_looks_94 ?_
          refine cg_iconst C (x := nI 1) rfl dL_looks_95 ?_
          obtain ⟨hc_96, h⟩ := h
          refine cg_ialoadR C hc_96 dL_looks_96 ?_
          refine cg_goto C 101 (by decide) dL_looks_97 ?_
          exact cg_sub [1, 4, 5, 6, 0] rfl (tb_L_looks_101 C hlt  x0 x3 x4 x5 t0 ((cI S2 x3 ((nI 1)).toNatClampNeg)) ((nI 1)) x4 cd dd S2 h)
      · have h := h.2 c_
        refine cg_aload C 5 rfl dL_looks_72 ?_
        refine cg_aload_n C (i := 2) rfl 3 rfl dL_looks_74 ?_
        refine cg_aload_n C (i := 1) rfl 2 rfl dL_looks_75 ?_
        refine cg_aload C 6 rfl dL_looks_76 ?_
        obtain ⟨hb_78, h⟩ := h
        refine cg_callsv C (t_L_names l x4 x2 x1 x5 S2 dp h) cc_L_249 rfl ⟨by decide, by decide⟩ hb_78 rfl (Nat.le_of_ble_eq_true rfl) dL_looks_78 (fun S_9 h => ?_)
        simp only [Nat.add_zero]
        refine cg_goto C 138 (by decide) dL_looks_81 ?_
        exact cg_sub [1, 6, 0] rfl (tb_L_looks_138 C hlt  x0 x5 t0 cd dd S_9 h)
    · have h := h.2 c_
      refine cg_iconst C (x := nI 1) rfl dL_looks_47 ?_
      obtain ⟨hb_48, h⟩ := h
      refine cg_cast (.int (bI true)) rfl ?_
      exact cg_zret C (bI_nar _) h dL_looks_48 hb_48.1 hb_48.2
  · have h := h.2 c_
    refine cg_aload_n C (i := 0) rfl 1 rfl dL_looks_23 ?_
    refine cg_iload C 0 rfl dL_looks_24 ?_
    obtain ⟨mc10, ms11, hm_1, hm_2, h⟩ := h
    refine cg_callsWi C (tw_L_looked l hlt mc10 ms11 x0 t0 S dp h) cc_L_260 rfl ⟨by decide, by decide⟩ ⟨hm_1, hm_2⟩ rfl (Nat.le_of_ble_eq_true rfl) dL_looks_26 (fun r_12 S_12 h => ?_)
    refine cg_bipush C (x := (-7)) rfl dL_looks_29 ?_
    refine cg_icmp_ne C 38 (by decide) dL_looks_31 (fun c_ => ?_) (fun c_ => ?_)
    · have h := h.1 c_
      refine cg_iconst C (x := nI 0) rfl dL_looks_38 ?_
      obtain ⟨hb_39, h⟩ := h
      refine cg_cast (.int (bI false)) rfl ?_
      exact cg_zret C (bI_nar _) h dL_looks_39 hb_39.1 hb_39.2
    · have h := h.2 c_
      refine cg_iconst C (x := nI 1) rfl dL_looks_34 ?_
      refine cg_goto C 39 (by decide) dL_looks_35 ?_
      obtain ⟨hb_39, h⟩ := h
      refine cg_cast (.int (bI true)) rfl ?_
      exact cg_zret C (bI_nar _) h dL_looks_39 hb_39.1 hb_39.2
end S_L_looks
set_option maxHeartbeats 1000000 in
set_option maxRecDepth 20000 in
theorem t_L_looks (l : Launch) (hlt : l.stackTraces = false) (mc ms : Nat) (x0 : Nat) (x1 : Nat) (x2 : Nat) (x3 : Nat) (x4 : Nat) (x5 : Nat) (x6 : Int32) (S : cS) (dp : Nat) {P : Int32 → cS → Prop} (h : k_L_looks P dp mc ms x0 x1 x2 x3 x4 x5 x6 S) : cMet (cQi P) l yL_looks cL_looks 9 (some .boolean) 12 mc ms 277 [.ref x0, .ref x1, .ref x2, .ref x3, .ref x4, .ref x5, .int x6] S dp := by
  intro D Y tp sz
  refine cg_body (by decide +kernel) (Nat.le_of_ble_eq_true rfl) ?_
  intro p e s m args below meth c C
  generalize va_A (cWd Y S) sz = A at C ⊢
  have C : cC p s m args meth c cL_looks 9 (some .boolean) A D Y tp dp RL := C
  refine cg_lv (lv' := [(0, .ref x0), (1, .ref x1), (2, .ref x2), (3, .ref x3), (4, .ref x4), (5, .ref x5), (6, .int x6)]) rfl ?_
  unfold k_L_looks at h
  refine cg_iload C 6 rfl dL_looks_0 ?_
  refine cg_iconst C (x := nI 3) rfl dL_looks_2 ?_
  refine cg_irem C (by decide) dL_looks_3 ?_
  refine cg_if_le C 11 (by decide) dL_looks_4 (fun c_ => ?_) (fun c_ => ?_)
  · have h := h.1 c_
    refine cg_iconst C (x := nI 0) rfl dL_looks_11 ?_
    exact cg_sub [0, 1, 2, 3, 4, 5] rfl (tb_L_looks_12 C hlt  x0 x1 x2 x3 x4 x5 ((nI 0)) 0 0 S h)
  · have h := h.2 c_
    refine cg_iconst C (x := nI 1) rfl dL_looks_7 ?_
    refine cg_goto C 12 (by decide) dL_looks_8 ?_
    exact cg_sub [0, 1, 2, 3, 4, 5] rfl (tb_L_looks_12 C hlt  x0 x1 x2 x3 x4 x5 ((nI 1)) 0 0 S h)
