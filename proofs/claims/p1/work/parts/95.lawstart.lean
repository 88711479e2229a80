/-! the law, from its entry -/
theorem lz_m1 : Cond.classLink RL 183 RX12 ∈ lWs := by first | (exact List.mem_of_getElem? (l := lWs) (i := lWs.length - 3) rfl) | decide +kernel
theorem lz_m2 : Cond.instantiable RX12 100 ∈ lWs := by first | (exact List.mem_of_getElem? (l := lWs) (i := lWs.length - 2) rfl) | decide +kernel
theorem lz_m3 : Cond.initialized RX12 ∈ lWs := by first | (exact List.mem_of_getElem? (l := lWs) (i := lWs.length - 1) rfl) | decide +kernel
theorem lz_m4 : Cond.methodLink RL 185 yX12_init ∈ lWs := by decide +kernel
theorem lz_m5 : Cond.instanceMethod yX12_init ∈ lWs := by decide +kernel
theorem lz_mc : Cond.code yX12_init cX12_init 4 none ∈ mWs := mWs_in 74 rfl
def cE0 : cS := ([], fun _ => 0, fun _ _ => 0, fun _ _ => none, fun _ _ => 0, fun _ => 0, fun _ _ => 0, fun _ _ => 0, fun _ _ => none)
theorem k_pre {p : Program} {l : Launch} {s : State} {m : MethodId} {meth : Method} {c : Code} {b L : Nat} {xs : Nat → Int32} {D : va_G} {Y : cY} {tp dp : Nat} {S : cS} {H : Heap} {locs : List Loc} {av : List Value} (C : lC p l s m meth c b L xs D Y tp dp) (hP : va_P D vwCl (cWd Y S) H) (hD : va_D (lA s) (cWd Y S)) (hS : va_S (lA s) s.heap H locs) : FrameBlind (va_Pc av (cPre D Y tp dp S H.size)) ∧ ∀ U : State, U.heap = H → s.WarmedH U.vm → va_Pc av (cPre D Y tp dp S H.size) av.toArray U := by
  obtain ⟨hx, hb, hml, hown, hts, hK, hlo, hr, hX, hbl, hlt, hE⟩ := C
  refine ⟨fun a' U g' mk q => ?_, fun U hU hW => ?_⟩
  · obtain ⟨q0, q1, qP, qK, qD, qE⟩ := q
    exact ⟨q0, q1, qP, va_K.moved (u := U) (U := U.calling g' mk a') (Vm.Alike.refl U.vm) qK, qD, qE.same a' g' mk⟩
  · exact ⟨rfl, by rw [hU], by rw [hU]; exact hP, va_K.moved hW.alike hK, hD.weaken (fun _ _ _ _ => trivial), by rw [hU]; exact hE.go hW hS (fun q h => by
      rcases h with ⟨k, e, h⟩ | h
      · exact hD.2 k _ h
      · exact Nat.le_trans hS.1 h)⟩
def mD0 : List Value := (List.range 100).map (fun k => if mI.getD k 0 = 0 then .int 0 else .null)
set_option maxRecDepth 100000 in
theorem mD0_ok : ∀ j, j < 100 → defaultValue (tyX12 j) = vp_V mD0 j := by decide +kernel
theorem mD0_P {cI cJ cZ : ClassId} {h : Nat} : ([(h, .inr (15, mD0))] : va_W) = mP 0 cI cJ cZ (fun _ => h) (fun _ => 0) := by
  unfold mP
  show [(h, _)] = [(h, _)]
  congr 4
  unfold mD0
  refine List.map_congr_left (fun k _ => ?_)
  unfold mFp
  by_cases q : mI.getD k 0 = 0
  · rw [if_pos q, if_pos q]
  · rw [if_neg q, if_neg q, if_neg (by omega)]
set_option maxHeartbeats 8000000 in
set_option maxRecDepth 100000 in
theorem whole_start {p : Program} {e : Env} {s : State} {m : MethodId} {below : List Frame} {meth : Method} {c : Code} (l : Launch) (hflags : l.flags = flags0) {b L : Nat} {xs : Nat → Int32} (hL : L ≤ 6) (C0 : lw_At p s m meth c b L xs) : W p l e room_1 s m #[Value.ref b] below meth c s.heap [] 0 0 (lw_Z below #[Value.ref b] s) (entryFrame m ([Value.ref b] : List Value).toArray 7) := by
  obtain ⟨hx, hb, hr, hml, hown, hts, hX, hbl, hlocks, hgv⟩ := id C0
  obtain ⟨D, Y, hK⟩ := law_K hts
  obtain ⟨tp, dp, hE⟩ := law_env hts hgv
  have hlt : l.stackTraces = false := by simp [Launch.stackTraces, hflags, flags0] <;> decide
  have C : lC p l s m meth c b L xs D Y tp dp := ⟨hx, hb, hml, hown, hts, hK, hlocks, hr, hX, hbl, hlt, hE⟩
  have hA : ∀ q : Nat, s.heap.size ≤ q → lA s q := fun _ h => h
  have htc : ∀ w ∈ cWs, w.before #[Value.ref b] s = true := fun w h => hts w (cWs_tbl w h)
  have htm : ∀ w ∈ mWs, w.before #[Value.ref b] s = true := fun w h => hts w (mWs_tbl w h)
  have htl : ∀ w ∈ lWs, w.before #[Value.ref b] s = true := fun w h => hts w (lWs_tbl w h)
  have hS : va_S (lA s) s.heap s.heap [] := va_S.rf
  have hP : va_P D vwCl (cWd Y cE0) s.heap := fun k q h => by simp [cWd, va_pl, cE0, cL] at h
  have hD : va_D (lA s) (cWd Y cE0) := ⟨fun i j p q h => by simp [cWd, va_pl, cE0, cL] at h, fun k q h => by simp [cWd, va_pl, cE0, cL] at h⟩
  have hl := lv_entry ([.ref b]) (n := 7) (Nat.le_of_ble_eq_true rfl)
  rw [lg_entry_eq]
  generalize (lg_sl ([.ref b]) ++ List.replicate (7 - (lg_sl ([.ref b])).length) Slot.unset).toArray = ls at hl ⊢
  have hl : lv_has ls 7 [(0, .ref b)] := hl
  refine va_new (ci := 14) (fs := [.null, .null, .null, .null, .null, .int 0, .null, .null, .null, .int 0, .null, .null, .null, .null, .int 0, .int 0, .int 0, .int 0, .int 0]) (C := RX11) (T := TX11) (N := 19) hx hb htc cWs_wsX110 tyX11 tyX11_ok hown (htc _ cn_L_8) (htc _ ci_X11) (htc _ ct_X11) hK hP hD hS hA rfl (fun j_ hj_ => by rcases (show j_ = 0 ∨ j_ = 1 ∨ j_ = 2 ∨ j_ = 3 ∨ j_ = 4 ∨ j_ = 5 ∨ j_ = 6 ∨ j_ = 7 ∨ j_ = 8 ∨ j_ = 9 ∨ j_ = 10 ∨ j_ = 11 ∨ j_ = 12 ∨ j_ = 13 ∨ j_ = 14 ∨ j_ = 15 ∨ j_ = 16 ∨ j_ = 17 ∨ j_ = 18 by omega) with rfl | rfl | rfl | rfl | rfl | rfl | rfl | rfl | rfl | rfl | rfl | rfl | rfl | rfl | rfl | rfl | rfl | rfl | rfl <;> rfl) (Nat.le_of_ble_eq_true rfl) (Nat.le_of_ble_eq_true rfl) dL_law_0 (fun x H hP hD hS => ?_)
  have hfx : x ∉ cL cE0 := cWd_fresh hD
  obtain ⟨S0, hS0⟩ : ∃ S0, S0 = cNew cE0 x 11 := ⟨_, rfl⟩
  have hp0 : cWd Y cE0 ++ [(x, .inr (14, [.null, .null, .null, .null, .null, .int 0, .null, .null, .null, .int 0, .null, .null, .null, .null, .int 0, .int 0, .int 0, .int 0, .int 0]))] = cWd Y S0 := by
    subst hS0
    exact cWd_push hfx rfl ((cE_o (S := cNew cE0 x 11) (k := 11) (upR_s) (by decide)).trans (by simp [kC, cF, cV, kF, cNew, ci, cr, cw, zA, List.range, List.range.loop, va_rf])) (fun b hb => cE_eq (upR_n hb) (fun _ => if_neg hb) (fun _ => if_neg hb) (fun _ => if_neg hb) rfl rfl rfl rfl)
  rw [hp0] at hP hD
  have hmx : x ∈ cL S0 := hm_No hS0
  have hkx : cK S0 x = 11 := hk_No hS0
  refine lv_dup hx hb dL_law_3 rfl ?_
  have hpre := k_pre (av := [.ref x]) C hP hD hS
  have hF : ∀ q, va_A (cWd Y S0) H.size q → lA s q := fun q h => by
    rcases h with ⟨k, e, h⟩ | h
    · exact hD.2 k _ h
    · exact Nat.le_trans hS.1 h
  obtain ⟨z1, z2, z3, z4, z5, z6, z7⟩ := cz_L_182
  have hb1 : CallB room_1 s #[Value.ref b] RL 182 yX11_init cX11_init 1 none (Cond.code yX11_init cX11_init 1 none :: cWs) (cRm 5 107 6671 113) 107 6671 0 := callB_of 0 htc (ccal_good z5) rfl rfl rfl (htc _ z3) (htc _ z2) ⟨z1.1, z1.2, z6⟩ ⟨by decide, by decide⟩
  refine va_callv (va_runI (As := []) (rest := [.ref x]) ⟨hx, hb, hml, hown, htc⟩ (z11_X11_init l hlt S0 dp x hkx hmx D Y tp H.size) ⟨hb1, z7, htc _ z4⟩ hpre rfl rfl hl.1 rfl (lv_room (Nat.le_of_ble_eq_true rfl)) dL_law_4 ⟨Nat.le_of_ble_eq_true rfl, Nat.le_of_ble_eq_true rfl⟩) hS (fun q _ h => hF q h) hF (fun u t H1 locs1 ht hvm hw hB hz1 hk1 hS1 => ?_)
  obtain ⟨hP1, hK1, hD1⟩ := hB
  rw [ht] at hP1
  have hD1 : va_D (lA s) (cWd Y u) := hD1.weaken (fun k q _ h => hF q.1 h)
  clear hP hD hS hpre hF hB hz1 hk1
  refine lv_astore_n (lv' := [(1, .ref x), (0, .ref b)]) hx hb dL_law_7 rfl hl (by decide) rfl (fun ls hl => ?_)
  refine va_new (ci := 15) (fs := mD0) (C := RX12) (T := TX12) (N := 100) hx hb htm mWs_lay tyX12 tyX12_ok hown (htl _ lz_m1) (htl _ lz_m2) (htl _ lz_m3) hK hP1 hD1 hS1 hA rfl mD0_ok (Nat.le_of_ble_eq_true rfl) (Nat.le_of_ble_eq_true rfl) dL_law_8 (fun h H2 hP2 hD2 hS2 => ?_)
  rw [mD0_P (cI := Y.2.1) (cJ := Y.2.2.1) (cZ := Y.2.2.2.1)] at hP2 hD2
  refine lv_dup hx hb dL_law_11 rfl ?_
  have hKm : va_K D vwCl (mTys Y.2.1 Y.2.2.1 Y.2.2.2.1) s := hK.sub [1, 2, 3] rfl
  have hF2 : ∀ q, va_A (mP 0 Y.2.1 Y.2.2.1 Y.2.2.2.1 (fun _ => h) (fun _ => 0)) H2.size q → lA s q := fun q z => by
    rcases z with ⟨k, e, z⟩ | z
    · exact (vD_r hD2).2 k _ z
    · exact Nat.le_trans hS2.1 z
  have hG : GoodIn mWs (Cond.code yX12_init cX12_init 4 none :: mWs) := by
    intro w hw
    rcases List.mem_cons.mp hw with rfl | hw
    · exact mWs_good _ lz_mc
    · exact mWs_good _ hw
  have hb2 : CallB room_1 s #[Value.ref b] RL 185 yX12_init cX12_init 4 none (Cond.code yX12_init cX12_init 4 none :: mWs) (cRm 1 64 403136 30) 64 403136 0 := callB_of 0 htm hG rfl rfl rfl (htm _ mWs_ini) (htl _ lz_m4) ⟨by decide, by decide, by decide +kernel⟩ ⟨by decide, by decide⟩
  refine va_callv (va_runI (As := []) (rest := [.ref h]) ⟨hx, hb, hml, hown, htm⟩ (c_init l h D Y.2.1 Y.2.2.1 Y.2.2.2.1 H2.size) ⟨hb2, rfl, htl _ lz_m5⟩ ⟨fun a' U g' mk q => ?_, fun U hU hW => ?_⟩ rfl rfl hl.1 rfl (lv_room (Nat.le_of_ble_eq_true rfl)) dL_law_12 ⟨Nat.le_of_ble_eq_true rfl, Nat.le_of_ble_eq_true rfl⟩) hS2 (fun q _ z => hF2 q z) hF2 (fun um t H3 locs3 ht hvm hwm hB hz3 hk3 hS3 => ?_)
  · obtain ⟨q0, q1, qP, qK, qD⟩ := q
    exact ⟨q0, q1, qP, va_K.moved (u := U) (U := U.calling g' mk a') (Vm.Alike.refl U.vm) qK, qD⟩
  · exact ⟨rfl, by rw [hU], by rw [hU]; exact vP_r hP2, va_K.moved hW.alike hKm, (vD_r hD2).weaken (fun _ _ _ _ => trivial)⟩
  obtain ⟨a, v, f, g⟩ := um
  obtain ⟨⟨hPm, hKm2⟩, hDm⟩ := hB
  obtain ⟨ha0, hM⟩ := hwm
  rw [ht] at hPm
  obtain ⟨hP3, hD3⟩ := v_join_r hP2 hD2 hk3 hF2 hPm hDm
  refine lv_astore_n (lv' := [(2, .ref h), (1, .ref x), (0, .ref b)]) hx hb dL_law_15 rfl hl (by decide) rfl (fun ls hl => ?_)
  refine lv_iconst (v := nI 1) hx hb dL_law_16 rfl ?_
  refine va_newa (atype := .long) (ty := .long) (N' := 1) (a0 := (1, .inr (.inl (fun _ => 0)))) hx hb (htc _ ca_long) rfl hK hP3 hD3 hS3 hA (fun cA => rfl) (nI_pos (by decide)) (nI_clamp (by decide)) (by decide) (Nat.le_of_ble_eq_true rfl) (Nat.le_of_ble_eq_true rfl) dL_law_17 (fun out cA H4 hK4 hP4 hD4 hS4 => ?_)
  have ecA : cA = Y.2.2.1 := by
    have h1 := (hK4.2 6 (cA, .long) rfl).2
    have h2 := (hK.2 2 (Y.2.2.1, .long) rfl).2
    exact Option.some.inj (h1.symm.trans h2)
  subst ecA
  have hP4 := va_P.swap hP4
  have hD4 := va_D.swap hD4
  have hfo : out ∉ cL u := cWd_fresh (vD_l hD4)
  obtain ⟨S4, hS4'⟩ : ∃ S4, S4 = cNewA u out 15 1 := ⟨_, rfl⟩
  have hp4 : cWd Y u ++ [(out, .inl (Y.2.2.1, (1, .inr (.inl (fun _ => 0)))))] = cWd Y S4 := by
    subst hS4'
    exact cWd_push hfo rfl ((cE_J (S := cNewA u out 15 1) (upR_s)).trans (by rw [show cn (cNewA u out 15 1) out = 1 from upR_s, show cJ (cNewA u out 15 1) out = (fun _ => 0) from upR_s])) (fun b hb => cE_eq (upR_n hb) (fun _ => rfl) (fun _ => rfl) (fun _ => rfl) (upR_n hb) (upR_n hb) (upR_n hb) (upR_n hb))
  rw [hp4] at hP4 hD4
  obtain ⟨q1, q2, q3, q10, q11, q15, q19, q20, q21, q22, q23, q29, q30, q37, hFr⟩ := ctor_fresh hkx hmx hw hfo hS4'
  refine lv_astore_n (lv' := [(3, .ref out), (2, .ref h), (1, .ref x), (0, .ref b)]) hx hb dL_law_19 rfl hl (by decide) rfl (fun ls hl => ?_)
  refine lv_iconst (v := nI 0) hx hb dL_law_20 rfl ?_
  refine lv_istore (lv' := [(4, .int (nI 0)), (3, .ref out), (2, .ref h), (1, .ref x), (0, .ref b)]) hx hb dL_law_21 hl (by decide) rfl (fun ls hl => ?_)
  have ha0' : a 0 = h := ha0
  rw [← ha0'] at hl
  exact law_head hL C hFr hM H4 _ ls hP4 hD4 hS4 hl
-- ===== PART A: goes FIRST, ahead of the names: the tables' words, and 'selects' of the private methods out of them =====
/-- a private method of a class that the tables say can be made, by its rows of tables_1 -/
def lw_okq (q : MethodName × Nat) : Prop := (q.1.cls ≠ "java/lang/invoke/MethodHandle" ∧ q.1.cls ≠ "java/lang/invoke/VarHandle") ∧ Cond.instantiable q.1.cls q.2 ∈ tables_1 ∧ Cond.privateMethod q.1 ∈ tables_1 ∧ Cond.instanceMethod q.1 ∈ tables_1
theorem lw_p0 : lw_okq (⟨"java/lang/Throwable", "fillInStackTrace", "(I)Ljava/lang/Throwable;"⟩, 6) := ⟨⟨by decide +kernel, by decide +kernel⟩, List.mem_of_getElem? (i := 434) (by decide +kernel), List.mem_of_getElem? (i := 432) (by decide +kernel), List.mem_of_getElem? (i := 433) (by decide +kernel)⟩
theorem lw_p1 : lw_okq (⟨"SearchMill$Language", "readWordsOf", "(LSearchMill$Text;)V"⟩, 9) := ⟨⟨by decide +kernel, by decide +kernel⟩, List.mem_of_getElem? (i := 45) (by decide +kernel), List.mem_of_getElem? (i := 495) (by decide +kernel), List.mem_of_getElem? (i := 496) (by decide +kernel)⟩
theorem lw_p2 : lw_okq (⟨"SearchMill$Language", "isStop", "(J)Z"⟩, 9) := ⟨⟨by decide +kernel, by decide +kernel⟩, List.mem_of_getElem? (i := 45) (by decide +kernel), List.mem_of_getElem? (i := 537) (by decide +kernel), List.mem_of_getElem? (i := 538) (by decide +kernel)⟩
theorem lw_p3 : lw_okq (⟨"SearchMill$Language", "putSynonyms", "(LSearchMill$Text;JI)V"⟩, 9) := ⟨⟨by decide +kernel, by decide +kernel⟩, List.mem_of_getElem? (i := 45) (by decide +kernel), List.mem_of_getElem? (i := 612) (by decide +kernel), List.mem_of_getElem? (i := 613) (by decide +kernel)⟩
theorem lw_p4 : lw_okq (⟨"SearchMill", "checkUp", "()V"⟩, 19) := ⟨⟨by decide +kernel, by decide +kernel⟩, List.mem_of_getElem? (i := 37) (by decide +kernel), List.mem_of_getElem? (i := 643) (by decide +kernel), List.mem_of_getElem? (i := 644) (by decide +kernel)⟩
theorem lw_p5 : lw_okq (⟨"SearchMill", "bufferPlaceOf", "(I)I"⟩, 19) := ⟨⟨by decide +kernel, by decide +kernel⟩, List.mem_of_getElem? (i := 37) (by decide +kernel), List.mem_of_getElem? (i := 652) (by decide +kernel), List.mem_of_getElem? (i := 653) (by decide +kernel)⟩
theorem lw_p6 : lw_okq (⟨"SearchMill", "dropKey", "(I)Z"⟩, 19) := ⟨⟨by decide +kernel, by decide +kernel⟩, List.mem_of_getElem? (i := 37) (by decide +kernel), List.mem_of_getElem? (i := 671) (by decide +kernel), List.mem_of_getElem? (i := 672) (by decide +kernel)⟩
theorem lw_p7 : lw_okq (⟨"java/util/ArrayList", "fastRemove", "([Ljava/lang/Object;I)V"⟩, 3) := ⟨⟨by decide +kernel, by decide +kernel⟩, List.mem_of_getElem? (i := 144) (by decide +kernel), List.mem_of_getElem? (i := 679) (by decide +kernel), List.mem_of_getElem? (i := 680) (by decide +kernel)⟩
theorem lw_p8 : lw_okq (⟨"java/util/ArrayList", "add", "(Ljava/lang/Object;[Ljava/lang/Object;I)V"⟩, 3) := ⟨⟨by decide +kernel, by decide +kernel⟩, List.mem_of_getElem? (i := 144) (by decide +kernel), List.mem_of_getElem? (i := 714) (by decide +kernel), List.mem_of_getElem? (i := 715) (by decide +kernel)⟩
theorem lw_p9 : lw_okq (⟨"java/util/ArrayList", "grow", "()[Ljava/lang/Object;"⟩, 3) := ⟨⟨by decide +kernel, by decide +kernel⟩, List.mem_of_getElem? (i := 144) (by decide +kernel), List.mem_of_getElem? (i := 718) (by decide +kernel), List.mem_of_getElem? (i := 719) (by decide +kernel)⟩
theorem lw_p10 : lw_okq (⟨"java/util/ArrayList", "grow", "(I)[Ljava/lang/Object;"⟩, 3) := ⟨⟨by decide +kernel, by decide +kernel⟩, List.mem_of_getElem? (i := 144) (by decide +kernel), List.mem_of_getElem? (i := 722) (by decide +kernel), List.mem_of_getElem? (i := 723) (by decide +kernel)⟩
theorem lw_p11 : lw_okq (⟨"SearchMill", "flushBuffer", "()I"⟩, 19) := ⟨⟨by decide +kernel, by decide +kernel⟩, List.mem_of_getElem? (i := 37) (by decide +kernel), List.mem_of_getElem? (i := 789) (by decide +kernel), List.mem_of_getElem? (i := 790) (by decide +kernel)⟩
theorem lw_p12 : lw_okq (⟨"SearchMill", "doWrite", "()Z"⟩, 19) := ⟨⟨by decide +kernel, by decide +kernel⟩, List.mem_of_getElem? (i := 37) (by decide +kernel), List.mem_of_getElem? (i := 793) (by decide +kernel), List.mem_of_getElem? (i := 794) (by decide +kernel)⟩
theorem lw_p13 : lw_okq (⟨"SearchMill", "goDown", "()V"⟩, 19) := ⟨⟨by decide +kernel, by decide +kernel⟩, List.mem_of_getElem? (i := 37) (by decide +kernel), List.mem_of_getElem? (i := 797) (by decide +kernel), List.mem_of_getElem? (i := 798) (by decide +kernel)⟩
theorem lw_p14 : lw_okq (⟨"SearchMill", "newSegment", "(Ljava/util/ArrayList;)LSearchMill$Segment;"⟩, 19) := ⟨⟨by decide +kernel, by decide +kernel⟩, List.mem_of_getElem? (i := 37) (by decide +kernel), List.mem_of_getElem? (i := 809) (by decide +kernel), List.mem_of_getElem? (i := 810) (by decide +kernel)⟩
theorem lw_p15 : lw_okq (⟨"java/util/ArrayList", "rangeCheckForAdd", "(I)V"⟩, 3) := ⟨⟨by decide +kernel, by decide +kernel⟩, List.mem_of_getElem? (i := 144) (by decide +kernel), List.mem_of_getElem? (i := 918) (by decide +kernel), List.mem_of_getElem? (i := 919) (by decide +kernel)⟩
def lw_privs_1 : List (MethodName × Nat) := [(⟨"java/lang/Throwable", "fillInStackTrace", "(I)Ljava/lang/Throwable;"⟩, 6), (⟨"SearchMill$Language", "readWordsOf", "(LSearchMill$Text;)V"⟩, 9), (⟨"SearchMill$Language", "isStop", "(J)Z"⟩, 9), (⟨"SearchMill$Language", "putSynonyms", "(LSearchMill$Text;JI)V"⟩, 9), (⟨"SearchMill", "checkUp", "()V"⟩, 19), (⟨"SearchMill", "bufferPlaceOf", "(I)I"⟩, 19), (⟨"SearchMill", "dropKey", "(I)Z"⟩, 19), (⟨"java/util/ArrayList", "fastRemove", "([Ljava/lang/Object;I)V"⟩, 3), (⟨"java/util/ArrayList", "add", "(Ljava/lang/Object;[Ljava/lang/Object;I)V"⟩, 3), (⟨"java/util/ArrayList", "grow", "()[Ljava/lang/Object;"⟩, 3), (⟨"java/util/ArrayList", "grow", "(I)[Ljava/lang/Object;"⟩, 3), (⟨"SearchMill", "flushBuffer", "()I"⟩, 19), (⟨"SearchMill", "doWrite", "()Z"⟩, 19), (⟨"SearchMill", "goDown", "()V"⟩, 19), (⟨"SearchMill", "newSegment", "(Ljava/util/ArrayList;)LSearchMill$Segment;"⟩, 19), (⟨"java/util/ArrayList", "rangeCheckForAdd", "(I)V"⟩, 3)]
theorem lw_r1 : ∀ q ∈ lw_privs_1, lw_okq q := List.forall_mem_cons.mpr ⟨lw_p0, List.forall_mem_cons.mpr ⟨lw_p1, List.forall_mem_cons.mpr ⟨lw_p2, List.forall_mem_cons.mpr ⟨lw_p3, List.forall_mem_cons.mpr ⟨lw_p4, List.forall_mem_cons.mpr ⟨lw_p5, List.forall_mem_cons.mpr ⟨lw_p6, List.forall_mem_cons.mpr ⟨lw_p7, List.forall_mem_cons.mpr ⟨lw_p8, List.forall_mem_cons.mpr ⟨lw_p9, List.forall_mem_cons.mpr ⟨lw_p10, List.forall_mem_cons.mpr ⟨lw_p11, List.forall_mem_cons.mpr ⟨lw_p12, List.forall_mem_cons.mpr ⟨lw_p13, List.forall_mem_cons.mpr ⟨lw_p14, List.forall_mem_cons.mpr ⟨lw_p15, fun _ h => absurd h List.not_mem_nil⟩⟩⟩⟩⟩⟩⟩⟩⟩⟩⟩⟩⟩⟩⟩⟩
theorem lw_p16 : lw_okq (⟨"java/util/ArrayList", "outOfBoundsMsg", "(I)Ljava/lang/String;"⟩, 3) := ⟨⟨by decide +kernel, by decide +kernel⟩, List.mem_of_getElem? (i := 144) (by decide +kernel), List.mem_of_getElem? (i := 923) (by decide +kernel), List.mem_of_getElem? (i := 924) (by decide +kernel)⟩
theorem lw_p17 : lw_okq (⟨"SearchMill$Postings", "putNumber", "(I)V"⟩, 10) := ⟨⟨by decide +kernel, by decide +kernel⟩, List.mem_of_getElem? (i := 873) (by decide +kernel), List.mem_of_getElem? (i := 1162) (by decide +kernel), List.mem_of_getElem? (i := 1163) (by decide +kernel)⟩
theorem lw_p18 : lw_okq (⟨"SearchMill$Postings", "putBits", "(II)V"⟩, 10) := ⟨⟨by decide +kernel, by decide +kernel⟩, List.mem_of_getElem? (i := 873) (by decide +kernel), List.mem_of_getElem? (i := 1170) (by decide +kernel), List.mem_of_getElem? (i := 1171) (by decide +kernel)⟩
theorem lw_p19 : lw_okq (⟨"SearchMill", "endMerge", "(LSearchMill$View;)V"⟩, 19) := ⟨⟨by decide +kernel, by decide +kernel⟩, List.mem_of_getElem? (i := 37) (by decide +kernel), List.mem_of_getElem? (i := 1263) (by decide +kernel), List.mem_of_getElem? (i := 1264) (by decide +kernel)⟩
theorem lw_p20 : lw_okq (⟨"SearchMill", "committed", "()LSearchMill$View;"⟩, 19) := ⟨⟨by decide +kernel, by decide +kernel⟩, List.mem_of_getElem? (i := 37) (by decide +kernel), List.mem_of_getElem? (i := 1354) (by decide +kernel), List.mem_of_getElem? (i := 1355) (by decide +kernel)⟩
theorem lw_p21 : lw_okq (⟨"SearchMill", "fileCount", "()I"⟩, 19) := ⟨⟨by decide +kernel, by decide +kernel⟩, List.mem_of_getElem? (i := 37) (by decide +kernel), List.mem_of_getElem? (i := 1365) (by decide +kernel), List.mem_of_getElem? (i := 1366) (by decide +kernel)⟩
theorem lw_p22 : lw_okq (⟨"SearchMill", "holdingAt", "(I)LSearchMill$Holding;"⟩, 19) := ⟨⟨by decide +kernel, by decide +kernel⟩, List.mem_of_getElem? (i := 37) (by decide +kernel), List.mem_of_getElem? (i := 1391) (by decide +kernel), List.mem_of_getElem? (i := 1392) (by decide +kernel)⟩
theorem lw_p23 : lw_okq (⟨"SearchMill", "wordsAt", "(II)Ljava/util/ArrayList;"⟩, 19) := ⟨⟨by decide +kernel, by decide +kernel⟩, List.mem_of_getElem? (i := 37) (by decide +kernel), List.mem_of_getElem? (i := 1421) (by decide +kernel), List.mem_of_getElem? (i := 1422) (by decide +kernel)⟩
theorem lw_p24 : lw_okq (⟨"SearchMill", "postingsAt", "(III)LSearchMill$Postings;"⟩, 19) := ⟨⟨by decide +kernel, by decide +kernel⟩, List.mem_of_getElem? (i := 37) (by decide +kernel), List.mem_of_getElem? (i := 1433) (by decide +kernel), List.mem_of_getElem? (i := 1434) (by decide +kernel)⟩
theorem lw_p25 : lw_okq (⟨"SearchMill", "snapshotOf", "(I)LSearchMill$View;"⟩, 19) := ⟨⟨by decide +kernel, by decide +kernel⟩, List.mem_of_getElem? (i := 37) (by decide +kernel), List.mem_of_getElem? (i := 1498) (by decide +kernel), List.mem_of_getElem? (i := 1499) (by decide +kernel)⟩
theorem lw_p26 : lw_okq (⟨"SearchMill", "checkLeaf", "(Z)V"⟩, 19) := ⟨⟨by decide +kernel, by decide +kernel⟩, List.mem_of_getElem? (i := 37) (by decide +kernel), List.mem_of_getElem? (i := 1522) (by decide +kernel), List.mem_of_getElem? (i := 1523) (by decide +kernel)⟩
theorem lw_p27 : lw_okq (⟨"SearchMill", "checkParts", "(I)V"⟩, 19) := ⟨⟨by decide +kernel, by decide +kernel⟩, List.mem_of_getElem? (i := 37) (by decide +kernel), List.mem_of_getElem? (i := 1655) (by decide +kernel), List.mem_of_getElem? (i := 1656) (by decide +kernel)⟩
theorem lw_p28 : lw_okq (⟨"SearchMill", "queryOf", "(I)LSearchMill$Query;"⟩, 19) := ⟨⟨by decide +kernel, by decide +kernel⟩, List.mem_of_getElem? (i := 37) (by decide +kernel), List.mem_of_getElem? (i := 1704) (by decide +kernel), List.mem_of_getElem? (i := 1705) (by decide +kernel)⟩
theorem lw_p29 : lw_okq (⟨"SearchMill$Reader", "readCount", "(LSearchMill$View;IJ)I"⟩, 7) := ⟨⟨by decide +kernel, by decide +kernel⟩, List.mem_of_getElem? (i := 214) (by decide +kernel), List.mem_of_getElem? (i := 1730) (by decide +kernel), List.mem_of_getElem? (i := 1731) (by decide +kernel)⟩
theorem lw_p30 : lw_okq (⟨"SearchMill$Postings", "nextNumber", "()I"⟩, 10) := ⟨⟨by decide +kernel, by decide +kernel⟩, List.mem_of_getElem? (i := 873) (by decide +kernel), List.mem_of_getElem? (i := 1747) (by decide +kernel), List.mem_of_getElem? (i := 1748) (by decide +kernel)⟩
theorem lw_p31 : lw_okq (⟨"SearchMill$Postings", "nextBits", "(I)I"⟩, 10) := ⟨⟨by decide +kernel, by decide +kernel⟩, List.mem_of_getElem? (i := 873) (by decide +kernel), List.mem_of_getElem? (i := 1751) (by decide +kernel), List.mem_of_getElem? (i := 1752) (by decide +kernel)⟩
def lw_privs_2 : List (MethodName × Nat) := [(⟨"java/util/ArrayList", "outOfBoundsMsg", "(I)Ljava/lang/String;"⟩, 3), (⟨"SearchMill$Postings", "putNumber", "(I)V"⟩, 10), (⟨"SearchMill$Postings", "putBits", "(II)V"⟩, 10), (⟨"SearchMill", "endMerge", "(LSearchMill$View;)V"⟩, 19), (⟨"SearchMill", "committed", "()LSearchMill$View;"⟩, 19), (⟨"SearchMill", "fileCount", "()I"⟩, 19), (⟨"SearchMill", "holdingAt", "(I)LSearchMill$Holding;"⟩, 19), (⟨"SearchMill", "wordsAt", "(II)Ljava/util/ArrayList;"⟩, 19), (⟨"SearchMill", "postingsAt", "(III)LSearchMill$Postings;"⟩, 19), (⟨"SearchMill", "snapshotOf", "(I)LSearchMill$View;"⟩, 19), (⟨"SearchMill", "checkLeaf", "(Z)V"⟩, 19), (⟨"SearchMill", "checkParts", "(I)V"⟩, 19), (⟨"SearchMill", "queryOf", "(I)LSearchMill$Query;"⟩, 19), (⟨"SearchMill$Reader", "readCount", "(LSearchMill$View;IJ)I"⟩, 7), (⟨"SearchMill$Postings", "nextNumber", "()I"⟩, 10), (⟨"SearchMill$Postings", "nextBits", "(I)I"⟩, 10)]
theorem lw_r2 : ∀ q ∈ lw_privs_2, lw_okq q := List.forall_mem_cons.mpr ⟨lw_p16, List.forall_mem_cons.mpr ⟨lw_p17, List.forall_mem_cons.mpr ⟨lw_p18, List.forall_mem_cons.mpr ⟨lw_p19, List.forall_mem_cons.mpr ⟨lw_p20, List.forall_mem_cons.mpr ⟨lw_p21, List.forall_mem_cons.mpr ⟨lw_p22, List.forall_mem_cons.mpr ⟨lw_p23, List.forall_mem_cons.mpr ⟨lw_p24, List.forall_mem_cons.mpr ⟨lw_p25, List.forall_mem_cons.mpr ⟨lw_p26, List.forall_mem_cons.mpr ⟨lw_p27, List.forall_mem_cons.mpr ⟨lw_p28, List.forall_mem_cons.mpr ⟨lw_p29, List.forall_mem_cons.mpr ⟨lw_p30, List.forall_mem_cons.mpr ⟨lw_p31, fun _ h => absurd h List.not_mem_nil⟩⟩⟩⟩⟩⟩⟩⟩⟩⟩⟩⟩⟩⟩⟩⟩
theorem lw_p32 : lw_okq (⟨"SearchMill$Reader", "readCounted", "(LSearchMill$Node;LSearchMill$Segment;[I[I)V"⟩, 7) := ⟨⟨by decide +kernel, by decide +kernel⟩, List.mem_of_getElem? (i := 214) (by decide +kernel), List.mem_of_getElem? (i := 1773) (by decide +kernel), List.mem_of_getElem? (i := 1774) (by decide +kernel)⟩
theorem lw_p33 : lw_okq (⟨"SearchMill$Node", "isCountedAt", "([II)Z"⟩, 11) := ⟨⟨by decide +kernel, by decide +kernel⟩, List.mem_of_getElem? (i := 1530) (by decide +kernel), List.mem_of_getElem? (i := 1782) (by decide +kernel), List.mem_of_getElem? (i := 1783) (by decide +kernel)⟩
theorem lw_p34 : lw_okq (⟨"SearchMill$Node", "hasNeighbour", "(II)Z"⟩, 11) := ⟨⟨by decide +kernel, by decide +kernel⟩, List.mem_of_getElem? (i := 1530) (by decide +kernel), List.mem_of_getElem? (i := 1786) (by decide +kernel), List.mem_of_getElem? (i := 1787) (by decide +kernel)⟩
theorem lw_p35 : lw_okq (⟨"SearchMill$Node", "isEdited", "(JI)Z"⟩, 11) := ⟨⟨by decide +kernel, by decide +kernel⟩, List.mem_of_getElem? (i := 1530) (by decide +kernel), List.mem_of_getElem? (i := 1802) (by decide +kernel), List.mem_of_getElem? (i := 1803) (by decide +kernel)⟩
theorem lw_p36 : lw_okq (⟨"SearchMill$Node", "isLikePattern", "(JI)Z"⟩, 11) := ⟨⟨by decide +kernel, by decide +kernel⟩, List.mem_of_getElem? (i := 1530) (by decide +kernel), List.mem_of_getElem? (i := 1809) (by decide +kernel), List.mem_of_getElem? (i := 1810) (by decide +kernel)⟩
theorem lw_p37 : lw_okq (⟨"SearchMill$Node", "withEmpty", "(I)I"⟩, 11) := ⟨⟨by decide +kernel, by decide +kernel⟩, List.mem_of_getElem? (i := 1530) (by decide +kernel), List.mem_of_getElem? (i := 1813) (by decide +kernel), List.mem_of_getElem? (i := 1814) (by decide +kernel)⟩
theorem lw_p38 : lw_okq (⟨"SearchMill$Finder", "entryOf", "(LSearchMill$Query;ILSearchMill$Segment;)I"⟩, 14) := ⟨⟨by decide +kernel, by decide +kernel⟩, List.mem_of_getElem? (i := 245) (by decide +kernel), List.mem_of_getElem? (i := 1818) (by decide +kernel), List.mem_of_getElem? (i := 1819) (by decide +kernel)⟩
theorem lw_p39 : lw_okq (⟨"SearchMill$Finder", "freeEntry", "()I"⟩, 14) := ⟨⟨by decide +kernel, by decide +kernel⟩, List.mem_of_getElem? (i := 245) (by decide +kernel), List.mem_of_getElem? (i := 1822) (by decide +kernel), List.mem_of_getElem? (i := 1823) (by decide +kernel)⟩
theorem lw_p40 : lw_okq (⟨"SearchMill$Reader", "giveOf", "(LSearchMill$Node;II)I"⟩, 7) := ⟨⟨by decide +kernel, by decide +kernel⟩, List.mem_of_getElem? (i := 214) (by decide +kernel), List.mem_of_getElem? (i := 1836) (by decide +kernel), List.mem_of_getElem? (i := 1837) (by decide +kernel)⟩
theorem lw_p41 : lw_okq (⟨"SearchMill$Query", "joined", "(LSearchMill$Node;I)I"⟩, 5) := ⟨⟨by decide +kernel, by decide +kernel⟩, List.mem_of_getElem? (i := 186) (by decide +kernel), List.mem_of_getElem? (i := 1848) (by decide +kernel), List.mem_of_getElem? (i := 1849) (by decide +kernel)⟩
theorem lw_p42 : lw_okq (⟨"SearchMill$Finder", "searchBlocks", "(LSearchMill$Query;LSearchMill$Holding;[II)V"⟩, 14) := ⟨⟨by decide +kernel, by decide +kernel⟩, List.mem_of_getElem? (i := 245) (by decide +kernel), List.mem_of_getElem? (i := 1852) (by decide +kernel), List.mem_of_getElem? (i := 1853) (by decide +kernel)⟩
theorem lw_p43 : lw_okq (⟨"SearchMill$Finder", "hold", "(III)V"⟩, 14) := ⟨⟨by decide +kernel, by decide +kernel⟩, List.mem_of_getElem? (i := 245) (by decide +kernel), List.mem_of_getElem? (i := 1864) (by decide +kernel), List.mem_of_getElem? (i := 1865) (by decide +kernel)⟩
theorem lw_p44 : lw_okq (⟨"SearchMill", "checkHit", "(I)V"⟩, 19) := ⟨⟨by decide +kernel, by decide +kernel⟩, List.mem_of_getElem? (i := 37) (by decide +kernel), List.mem_of_getElem? (i := 1875) (by decide +kernel), List.mem_of_getElem? (i := 1876) (by decide +kernel)⟩
theorem lw_p45 : lw_okq (⟨"SearchMill$Reader", "scanCounted", "(LSearchMill$Node;LSearchMill$Text;)I"⟩, 7) := ⟨⟨by decide +kernel, by decide +kernel⟩, List.mem_of_getElem? (i := 214) (by decide +kernel), List.mem_of_getElem? (i := 1915) (by decide +kernel), List.mem_of_getElem? (i := 1916) (by decide +kernel)⟩
theorem lw_p46 : lw_okq (⟨"SearchMill$Finder", "readSpots", "(LSearchMill$Query;I)I"⟩, 14) := ⟨⟨by decide +kernel, by decide +kernel⟩, List.mem_of_getElem? (i := 245) (by decide +kernel), List.mem_of_getElem? (i := 1984) (by decide +kernel), List.mem_of_getElem? (i := 1985) (by decide +kernel)⟩
theorem lw_p47 : lw_okq (⟨"SearchMillModel", "goes", "(ZZZ)Z"⟩, 100) := ⟨⟨by decide +kernel, by decide +kernel⟩, List.mem_of_getElem? (i := 2005) (by decide +kernel), List.mem_of_getElem? (i := 2326) (by decide +kernel), List.mem_of_getElem? (i := 2327) (by decide +kernel)⟩
def lw_privs_3 : List (MethodName × Nat) := [(⟨"SearchMill$Reader", "readCounted", "(LSearchMill$Node;LSearchMill$Segment;[I[I)V"⟩, 7), (⟨"SearchMill$Node", "isCountedAt", "([II)Z"⟩, 11), (⟨"SearchMill$Node", "hasNeighbour", "(II)Z"⟩, 11), (⟨"SearchMill$Node", "isEdited", "(JI)Z"⟩, 11), (⟨"SearchMill$Node", "isLikePattern", "(JI)Z"⟩, 11), (⟨"SearchMill$Node", "withEmpty", "(I)I"⟩, 11), (⟨"SearchMill$Finder", "entryOf", "(LSearchMill$Query;ILSearchMill$Segment;)I"⟩, 14), (⟨"SearchMill$Finder", "freeEntry", "()I"⟩, 14), (⟨"SearchMill$Reader", "giveOf", "(LSearchMill$Node;II)I"⟩, 7), (⟨"SearchMill$Query", "joined", "(LSearchMill$Node;I)I"⟩, 5), (⟨"SearchMill$Finder", "searchBlocks", "(LSearchMill$Query;LSearchMill$Holding;[II)V"⟩, 14), (⟨"SearchMill$Finder", "hold", "(III)V"⟩, 14), (⟨"SearchMill", "checkHit", "(I)V"⟩, 19), (⟨"SearchMill$Reader", "scanCounted", "(LSearchMill$Node;LSearchMill$Text;)I"⟩, 7), (⟨"SearchMill$Finder", "readSpots", "(LSearchMill$Query;I)I"⟩, 14), (⟨"SearchMillModel", "goes", "(ZZZ)Z"⟩, 100)]
theorem lw_r3 : ∀ q ∈ lw_privs_3, lw_okq q := List.forall_mem_cons.mpr ⟨lw_p32, List.forall_mem_cons.mpr ⟨lw_p33, List.forall_mem_cons.mpr ⟨lw_p34, List.forall_mem_cons.mpr ⟨lw_p35, List.forall_mem_cons.mpr ⟨lw_p36, List.forall_mem_cons.mpr ⟨lw_p37, List.forall_mem_cons.mpr ⟨lw_p38, List.forall_mem_cons.mpr ⟨lw_p39, List.forall_mem_cons.mpr ⟨lw_p40, List.forall_mem_cons.mpr ⟨lw_p41, List.forall_mem_cons.mpr ⟨lw_p42, List.forall_mem_cons.mpr ⟨lw_p43, List.forall_mem_cons.mpr ⟨lw_p44, List.forall_mem_cons.mpr ⟨lw_p45, List.forall_mem_cons.mpr ⟨lw_p46, List.forall_mem_cons.mpr ⟨lw_p47, fun _ h => absurd h List.not_mem_nil⟩⟩⟩⟩⟩⟩⟩⟩⟩⟩⟩⟩⟩⟩⟩⟩
theorem lw_p48 : lw_okq (⟨"SearchMillModel", "reads", "()V"⟩, 100) := ⟨⟨by decide +kernel, by decide +kernel⟩, List.mem_of_getElem? (i := 2005) (by decide +kernel), List.mem_of_getElem? (i := 2338) (by decide +kernel), List.mem_of_getElem? (i := 2339) (by decide +kernel)⟩
theorem lw_p49 : lw_okq (⟨"SearchMillModel", "stem", "(J)J"⟩, 100) := ⟨⟨by decide +kernel, by decide +kernel⟩, List.mem_of_getElem? (i := 2005) (by decide +kernel), List.mem_of_getElem? (i := 2345) (by decide +kernel), List.mem_of_getElem? (i := 2346) (by decide +kernel)⟩
theorem lw_p50 : lw_okq (⟨"SearchMillModel", "length", "(J)I"⟩, 100) := ⟨⟨by decide +kernel, by decide +kernel⟩, List.mem_of_getElem? (i := 2005) (by decide +kernel), List.mem_of_getElem? (i := 2349) (by decide +kernel), List.mem_of_getElem? (i := 2350) (by decide +kernel)⟩
theorem lw_p51 : lw_okq (⟨"SearchMillModel", "at", "(JI)I"⟩, 100) := ⟨⟨by decide +kernel, by decide +kernel⟩, List.mem_of_getElem? (i := 2005) (by decide +kernel), List.mem_of_getElem? (i := 2353) (by decide +kernel), List.mem_of_getElem? (i := 2354) (by decide +kernel)⟩
theorem lw_p52 : lw_okq (⟨"SearchMillModel", "ends", "(JIII)Z"⟩, 100) := ⟨⟨by decide +kernel, by decide +kernel⟩, List.mem_of_getElem? (i := 2005) (by decide +kernel), List.mem_of_getElem? (i := 2357) (by decide +kernel), List.mem_of_getElem? (i := 2358) (by decide +kernel)⟩
theorem lw_p53 : lw_okq (⟨"SearchMillModel", "without", "(JII)J"⟩, 100) := ⟨⟨by decide +kernel, by decide +kernel⟩, List.mem_of_getElem? (i := 2005) (by decide +kernel), List.mem_of_getElem? (i := 2361) (by decide +kernel), List.mem_of_getElem? (i := 2362) (by decide +kernel)⟩
theorem lw_p54 : lw_okq (⟨"SearchMillModel", "isStop", "(J)Z"⟩, 100) := ⟨⟨by decide +kernel, by decide +kernel⟩, List.mem_of_getElem? (i := 2005) (by decide +kernel), List.mem_of_getElem? (i := 2365) (by decide +kernel), List.mem_of_getElem? (i := 2366) (by decide +kernel)⟩
theorem lw_p55 : lw_okq (⟨"SearchMillModel", "gives", "(IJ)Z"⟩, 100) := ⟨⟨by decide +kernel, by decide +kernel⟩, List.mem_of_getElem? (i := 2005) (by decide +kernel), List.mem_of_getElem? (i := 2377) (by decide +kernel), List.mem_of_getElem? (i := 2378) (by decide +kernel)⟩
theorem lw_p56 : lw_okq (⟨"SearchMillModel", "inBuffer", "(I)I"⟩, 100) := ⟨⟨by decide +kernel, by decide +kernel⟩, List.mem_of_getElem? (i := 2005) (by decide +kernel), List.mem_of_getElem? (i := 2392) (by decide +kernel), List.mem_of_getElem? (i := 2393) (by decide +kernel)⟩
theorem lw_p57 : lw_okq (⟨"SearchMillModel", "deletes", "(I)Z"⟩, 100) := ⟨⟨by decide +kernel, by decide +kernel⟩, List.mem_of_getElem? (i := 2005) (by decide +kernel), List.mem_of_getElem? (i := 2396) (by decide +kernel), List.mem_of_getElem? (i := 2397) (by decide +kernel)⟩
theorem lw_p58 : lw_okq (⟨"SearchMillModel", "moves", "(II)V"⟩, 100) := ⟨⟨by decide +kernel, by decide +kernel⟩, List.mem_of_getElem? (i := 2005) (by decide +kernel), List.mem_of_getElem? (i := 2400) (by decide +kernel), List.mem_of_getElem? (i := 2401) (by decide +kernel)⟩
theorem lw_p59 : lw_okq (⟨"SearchMillModel", "flushes", "()I"⟩, 100) := ⟨⟨by decide +kernel, by decide +kernel⟩, List.mem_of_getElem? (i := 2005) (by decide +kernel), List.mem_of_getElem? (i := 2412) (by decide +kernel), List.mem_of_getElem? (i := 2413) (by decide +kernel)⟩
theorem lw_p60 : lw_okq (⟨"SearchMillModel", "writes1", "()Z"⟩, 100) := ⟨⟨by decide +kernel, by decide +kernel⟩, List.mem_of_getElem? (i := 2005) (by decide +kernel), List.mem_of_getElem? (i := 2416) (by decide +kernel), List.mem_of_getElem? (i := 2417) (by decide +kernel)⟩
theorem lw_p61 : lw_okq (⟨"SearchMillModel", "dueAt", "()I"⟩, 100) := ⟨⟨by decide +kernel, by decide +kernel⟩, List.mem_of_getElem? (i := 2005) (by decide +kernel), List.mem_of_getElem? (i := 2424) (by decide +kernel), List.mem_of_getElem? (i := 2425) (by decide +kernel)⟩
theorem lw_p62 : lw_okq (⟨"SearchMillModel", "tier", "(I)I"⟩, 100) := ⟨⟨by decide +kernel, by decide +kernel⟩, List.mem_of_getElem? (i := 2005) (by decide +kernel), List.mem_of_getElem? (i := 2428) (by decide +kernel), List.mem_of_getElem? (i := 2429) (by decide +kernel)⟩
theorem lw_p63 : lw_okq (⟨"SearchMillModel", "ends1", "()V"⟩, 100) := ⟨⟨by decide +kernel, by decide +kernel⟩, List.mem_of_getElem? (i := 2005) (by decide +kernel), List.mem_of_getElem? (i := 2440) (by decide +kernel), List.mem_of_getElem? (i := 2441) (by decide +kernel)⟩
def lw_privs_4 : List (MethodName × Nat) := [(⟨"SearchMillModel", "reads", "()V"⟩, 100), (⟨"SearchMillModel", "stem", "(J)J"⟩, 100), (⟨"SearchMillModel", "length", "(J)I"⟩, 100), (⟨"SearchMillModel", "at", "(JI)I"⟩, 100), (⟨"SearchMillModel", "ends", "(JIII)Z"⟩, 100), (⟨"SearchMillModel", "without", "(JII)J"⟩, 100), (⟨"SearchMillModel", "isStop", "(J)Z"⟩, 100), (⟨"SearchMillModel", "gives", "(IJ)Z"⟩, 100), (⟨"SearchMillModel", "inBuffer", "(I)I"⟩, 100), (⟨"SearchMillModel", "deletes", "(I)Z"⟩, 100), (⟨"SearchMillModel", "moves", "(II)V"⟩, 100), (⟨"SearchMillModel", "flushes", "()I"⟩, 100), (⟨"SearchMillModel", "writes1", "()Z"⟩, 100), (⟨"SearchMillModel", "dueAt", "()I"⟩, 100), (⟨"SearchMillModel", "tier", "(I)I"⟩, 100), (⟨"SearchMillModel", "ends1", "()V"⟩, 100)]
theorem lw_r4 : ∀ q ∈ lw_privs_4, lw_okq q := List.forall_mem_cons.mpr ⟨lw_p48, List.forall_mem_cons.mpr ⟨lw_p49, List.forall_mem_cons.mpr ⟨lw_p50, List.forall_mem_cons.mpr ⟨lw_p51, List.forall_mem_cons.mpr ⟨lw_p52, List.forall_mem_cons.mpr ⟨lw_p53, List.forall_mem_cons.mpr ⟨lw_p54, List.forall_mem_cons.mpr ⟨lw_p55, List.forall_mem_cons.mpr ⟨lw_p56, List.forall_mem_cons.mpr ⟨lw_p57, List.forall_mem_cons.mpr ⟨lw_p58, List.forall_mem_cons.mpr ⟨lw_p59, List.forall_mem_cons.mpr ⟨lw_p60, List.forall_mem_cons.mpr ⟨lw_p61, List.forall_mem_cons.mpr ⟨lw_p62, List.forall_mem_cons.mpr ⟨lw_p63, fun _ h => absurd h List.not_mem_nil⟩⟩⟩⟩⟩⟩⟩⟩⟩⟩⟩⟩⟩⟩⟩⟩
theorem lw_p64 : lw_okq (⟨"SearchMillModel", "differs", "(I)Z"⟩, 100) := ⟨⟨by decide +kernel, by decide +kernel⟩, List.mem_of_getElem? (i := 2005) (by decide +kernel), List.mem_of_getElem? (i := 2452) (by decide +kernel), List.mem_of_getElem? (i := 2453) (by decide +kernel)⟩
theorem lw_p65 : lw_okq (⟨"SearchMillModel", "filesNow", "()I"⟩, 100) := ⟨⟨by decide +kernel, by decide +kernel⟩, List.mem_of_getElem? (i := 2005) (by decide +kernel), List.mem_of_getElem? (i := 2480) (by decide +kernel), List.mem_of_getElem? (i := 2481) (by decide +kernel)⟩
theorem lw_p66 : lw_okq (⟨"SearchMillModel", "isInCommit", "(I)Z"⟩, 100) := ⟨⟨by decide +kernel, by decide +kernel⟩, List.mem_of_getElem? (i := 2005) (by decide +kernel), List.mem_of_getElem? (i := 2484) (by decide +kernel), List.mem_of_getElem? (i := 2485) (by decide +kernel)⟩
theorem lw_p67 : lw_okq (⟨"SearchMillModel", "isInPrepared", "(I)Z"⟩, 100) := ⟨⟨by decide +kernel, by decide +kernel⟩, List.mem_of_getElem? (i := 2005) (by decide +kernel), List.mem_of_getElem? (i := 2488) (by decide +kernel), List.mem_of_getElem? (i := 2489) (by decide +kernel)⟩
theorem lw_p68 : lw_okq (⟨"SearchMillModel", "isInIndex", "(I)Z"⟩, 100) := ⟨⟨by decide +kernel, by decide +kernel⟩, List.mem_of_getElem? (i := 2005) (by decide +kernel), List.mem_of_getElem? (i := 2492) (by decide +kernel), List.mem_of_getElem? (i := 2493) (by decide +kernel)⟩
theorem lw_p69 : lw_okq (⟨"SearchMillModel", "isInLooks", "(I)Z"⟩, 100) := ⟨⟨by decide +kernel, by decide +kernel⟩, List.mem_of_getElem? (i := 2005) (by decide +kernel), List.mem_of_getElem? (i := 2496) (by decide +kernel), List.mem_of_getElem? (i := 2497) (by decide +kernel)⟩
theorem lw_p70 : lw_okq (⟨"SearchMillModel", "isPlace", "(I)Z"⟩, 100) := ⟨⟨by decide +kernel, by decide +kernel⟩, List.mem_of_getElem? (i := 2005) (by decide +kernel), List.mem_of_getElem? (i := 2512) (by decide +kernel), List.mem_of_getElem? (i := 2513) (by decide +kernel)⟩
theorem lw_p71 : lw_okq (⟨"SearchMillModel", "hasWords", "(II)Z"⟩, 100) := ⟨⟨by decide +kernel, by decide +kernel⟩, List.mem_of_getElem? (i := 2005) (by decide +kernel), List.mem_of_getElem? (i := 2528) (by decide +kernel), List.mem_of_getElem? (i := 2529) (by decide +kernel)⟩
theorem lw_p72 : lw_okq (⟨"SearchMillModel", "isField", "(I)Z"⟩, 100) := ⟨⟨by decide +kernel, by decide +kernel⟩, List.mem_of_getElem? (i := 2005) (by decide +kernel), List.mem_of_getElem? (i := 2532) (by decide +kernel), List.mem_of_getElem? (i := 2533) (by decide +kernel)⟩
theorem lw_p73 : lw_okq (⟨"SearchMillModel", "finds", "(II)V"⟩, 100) := ⟨⟨by decide +kernel, by decide +kernel⟩, List.mem_of_getElem? (i := 2005) (by decide +kernel), List.mem_of_getElem? (i := 2536) (by decide +kernel), List.mem_of_getElem? (i := 2537) (by decide +kernel)⟩
theorem lw_p74 : lw_okq (⟨"SearchMillModel", "puts", "(J)V"⟩, 100) := ⟨⟨by decide +kernel, by decide +kernel⟩, List.mem_of_getElem? (i := 2005) (by decide +kernel), List.mem_of_getElem? (i := 2540) (by decide +kernel), List.mem_of_getElem? (i := 2541) (by decide +kernel)⟩
theorem lw_p75 : lw_okq (⟨"SearchMillModel", "hasWord", "(III)Z"⟩, 100) := ⟨⟨by decide +kernel, by decide +kernel⟩, List.mem_of_getElem? (i := 2005) (by decide +kernel), List.mem_of_getElem? (i := 2548) (by decide +kernel), List.mem_of_getElem? (i := 2549) (by decide +kernel)⟩
theorem lw_p76 : lw_okq (⟨"SearchMillModel", "sharedBy", "(I)I"⟩, 100) := ⟨⟨by decide +kernel, by decide +kernel⟩, List.mem_of_getElem? (i := 2005) (by decide +kernel), List.mem_of_getElem? (i := 2552) (by decide +kernel), List.mem_of_getElem? (i := 2553) (by decide +kernel)⟩
theorem lw_p77 : lw_okq (⟨"SearchMillModel", "packs", "(IIJ)V"⟩, 100) := ⟨⟨by decide +kernel, by decide +kernel⟩, List.mem_of_getElem? (i := 2005) (by decide +kernel), List.mem_of_getElem? (i := 2568) (by decide +kernel), List.mem_of_getElem? (i := 2569) (by decide +kernel)⟩
theorem lw_p78 : lw_okq (⟨"SearchMillModel", "hasAt", "(IIIJ)Z"⟩, 100) := ⟨⟨by decide +kernel, by decide +kernel⟩, List.mem_of_getElem? (i := 2005) (by decide +kernel), List.mem_of_getElem? (i := 2572) (by decide +kernel), List.mem_of_getElem? (i := 2573) (by decide +kernel)⟩
theorem lw_p79 : lw_okq (⟨"SearchMillModel", "writesBits", "(II)V"⟩, 100) := ⟨⟨by decide +kernel, by decide +kernel⟩, List.mem_of_getElem? (i := 2005) (by decide +kernel), List.mem_of_getElem? (i := 2576) (by decide +kernel), List.mem_of_getElem? (i := 2577) (by decide +kernel)⟩
def lw_privs_5 : List (MethodName × Nat) := [(⟨"SearchMillModel", "differs", "(I)Z"⟩, 100), (⟨"SearchMillModel", "filesNow", "()I"⟩, 100), (⟨"SearchMillModel", "isInCommit", "(I)Z"⟩, 100), (⟨"SearchMillModel", "isInPrepared", "(I)Z"⟩, 100), (⟨"SearchMillModel", "isInIndex", "(I)Z"⟩, 100), (⟨"SearchMillModel", "isInLooks", "(I)Z"⟩, 100), (⟨"SearchMillModel", "isPlace", "(I)Z"⟩, 100), (⟨"SearchMillModel", "hasWords", "(II)Z"⟩, 100), (⟨"SearchMillModel", "isField", "(I)Z"⟩, 100), (⟨"SearchMillModel", "finds", "(II)V"⟩, 100), (⟨"SearchMillModel", "puts", "(J)V"⟩, 100), (⟨"SearchMillModel", "hasWord", "(III)Z"⟩, 100), (⟨"SearchMillModel", "sharedBy", "(I)I"⟩, 100), (⟨"SearchMillModel", "packs", "(IIJ)V"⟩, 100), (⟨"SearchMillModel", "hasAt", "(IIIJ)Z"⟩, 100), (⟨"SearchMillModel", "writesBits", "(II)V"⟩, 100)]
theorem lw_r5 : ∀ q ∈ lw_privs_5, lw_okq q := List.forall_mem_cons.mpr ⟨lw_p64, List.forall_mem_cons.mpr ⟨lw_p65, List.forall_mem_cons.mpr ⟨lw_p66, List.forall_mem_cons.mpr ⟨lw_p67, List.forall_mem_cons.mpr ⟨lw_p68, List.forall_mem_cons.mpr ⟨lw_p69, List.forall_mem_cons.mpr ⟨lw_p70, List.forall_mem_cons.mpr ⟨lw_p71, List.forall_mem_cons.mpr ⟨lw_p72, List.forall_mem_cons.mpr ⟨lw_p73, List.forall_mem_cons.mpr ⟨lw_p74, List.forall_mem_cons.mpr ⟨lw_p75, List.forall_mem_cons.mpr ⟨lw_p76, List.forall_mem_cons.mpr ⟨lw_p77, List.forall_mem_cons.mpr ⟨lw_p78, List.forall_mem_cons.mpr ⟨lw_p79, fun _ h => absurd h List.not_mem_nil⟩⟩⟩⟩⟩⟩⟩⟩⟩⟩⟩⟩⟩⟩⟩⟩
theorem lw_p80 : lw_okq (⟨"SearchMillModel", "slotOf", "(I)I"⟩, 100) := ⟨⟨by decide +kernel, by decide +kernel⟩, List.mem_of_getElem? (i := 2005) (by decide +kernel), List.mem_of_getElem? (i := 2592) (by decide +kernel), List.mem_of_getElem? (i := 2593) (by decide +kernel)⟩
theorem lw_p81 : lw_okq (⟨"SearchMillModel", "lays", "(I)V"⟩, 100) := ⟨⟨by decide +kernel, by decide +kernel⟩, List.mem_of_getElem? (i := 2005) (by decide +kernel), List.mem_of_getElem? (i := 2600) (by decide +kernel), List.mem_of_getElem? (i := 2601) (by decide +kernel)⟩
theorem lw_p82 : lw_okq (⟨"SearchMillModel", "hasTokens", "(II)Z"⟩, 100) := ⟨⟨by decide +kernel, by decide +kernel⟩, List.mem_of_getElem? (i := 2005) (by decide +kernel), List.mem_of_getElem? (i := 2608) (by decide +kernel), List.mem_of_getElem? (i := 2609) (by decide +kernel)⟩
theorem lw_p83 : lw_okq (⟨"SearchMillModel", "hasRoom", "()Z"⟩, 100) := ⟨⟨by decide +kernel, by decide +kernel⟩, List.mem_of_getElem? (i := 2005) (by decide +kernel), List.mem_of_getElem? (i := 2612) (by decide +kernel), List.mem_of_getElem? (i := 2613) (by decide +kernel)⟩
theorem lw_p84 : lw_okq (⟨"SearchMillModel", "leaf", "(IIIZ)I"⟩, 100) := ⟨⟨by decide +kernel, by decide +kernel⟩, List.mem_of_getElem? (i := 2005) (by decide +kernel), List.mem_of_getElem? (i := 2616) (by decide +kernel), List.mem_of_getElem? (i := 2617) (by decide +kernel)⟩
theorem lw_p85 : lw_okq (⟨"SearchMillModel", "hasWordAlone", "()Z"⟩, 100) := ⟨⟨by decide +kernel, by decide +kernel⟩, List.mem_of_getElem? (i := 2005) (by decide +kernel), List.mem_of_getElem? (i := 2635) (by decide +kernel), List.mem_of_getElem? (i := 2636) (by decide +kernel)⟩
theorem lw_p86 : lw_okq (⟨"SearchMillModel", "joins", "(III)I"⟩, 100) := ⟨⟨by decide +kernel, by decide +kernel⟩, List.mem_of_getElem? (i := 2005) (by decide +kernel), List.mem_of_getElem? (i := 2651) (by decide +kernel), List.mem_of_getElem? (i := 2652) (by decide +kernel)⟩
theorem lw_p87 : lw_okq (⟨"SearchMillModel", "scraps", "()V"⟩, 100) := ⟨⟨by decide +kernel, by decide +kernel⟩, List.mem_of_getElem? (i := 2005) (by decide +kernel), List.mem_of_getElem? (i := 2663) (by decide +kernel), List.mem_of_getElem? (i := 2664) (by decide +kernel)⟩
theorem lw_p88 : lw_okq (⟨"SearchMillModel", "readies", "(II)V"⟩, 100) := ⟨⟨by decide +kernel, by decide +kernel⟩, List.mem_of_getElem? (i := 2005) (by decide +kernel), List.mem_of_getElem? (i := 2679) (by decide +kernel), List.mem_of_getElem? (i := 2680) (by decide +kernel)⟩
theorem lw_p89 : lw_okq (⟨"SearchMillModel", "laysGains", "(I)V"⟩, 100) := ⟨⟨by decide +kernel, by decide +kernel⟩, List.mem_of_getElem? (i := 2005) (by decide +kernel), List.mem_of_getElem? (i := 2683) (by decide +kernel), List.mem_of_getElem? (i := 2684) (by decide +kernel)⟩
theorem lw_p90 : lw_okq (⟨"SearchMillModel", "rarity", "(IJ)I"⟩, 100) := ⟨⟨by decide +kernel, by decide +kernel⟩, List.mem_of_getElem? (i := 2005) (by decide +kernel), List.mem_of_getElem? (i := 2687) (by decide +kernel), List.mem_of_getElem? (i := 2688) (by decide +kernel)⟩
theorem lw_p91 : lw_okq (⟨"SearchMillModel", "laysSeconds", "(I)V"⟩, 100) := ⟨⟨by decide +kernel, by decide +kernel⟩, List.mem_of_getElem? (i := 2005) (by decide +kernel), List.mem_of_getElem? (i := 2691) (by decide +kernel), List.mem_of_getElem? (i := 2692) (by decide +kernel)⟩
theorem lw_p92 : lw_okq (⟨"SearchMillModel", "takes", "(II)Z"⟩, 100) := ⟨⟨by decide +kernel, by decide +kernel⟩, List.mem_of_getElem? (i := 2005) (by decide +kernel), List.mem_of_getElem? (i := 2695) (by decide +kernel), List.mem_of_getElem? (i := 2696) (by decide +kernel)⟩
theorem lw_p93 : lw_okq (⟨"SearchMillModel", "bound", "(III)I"⟩, 100) := ⟨⟨by decide +kernel, by decide +kernel⟩, List.mem_of_getElem? (i := 2005) (by decide +kernel), List.mem_of_getElem? (i := 2699) (by decide +kernel), List.mem_of_getElem? (i := 2700) (by decide +kernel)⟩
theorem lw_p94 : lw_okq (⟨"SearchMillModel", "fitsAt", "(IIII)Z"⟩, 100) := ⟨⟨by decide +kernel, by decide +kernel⟩, List.mem_of_getElem? (i := 2005) (by decide +kernel), List.mem_of_getElem? (i := 2703) (by decide +kernel), List.mem_of_getElem? (i := 2704) (by decide +kernel)⟩
theorem lw_p95 : lw_okq (⟨"SearchMillModel", "fitsWord", "(JI)Z"⟩, 100) := ⟨⟨by decide +kernel, by decide +kernel⟩, List.mem_of_getElem? (i := 2005) (by decide +kernel), List.mem_of_getElem? (i := 2707) (by decide +kernel), List.mem_of_getElem? (i := 2708) (by decide +kernel)⟩
def lw_privs_6 : List (MethodName × Nat) := [(⟨"SearchMillModel", "slotOf", "(I)I"⟩, 100), (⟨"SearchMillModel", "lays", "(I)V"⟩, 100), (⟨"SearchMillModel", "hasTokens", "(II)Z"⟩, 100), (⟨"SearchMillModel", "hasRoom", "()Z"⟩, 100), (⟨"SearchMillModel", "leaf", "(IIIZ)I"⟩, 100), (⟨"SearchMillModel", "hasWordAlone", "()Z"⟩, 100), (⟨"SearchMillModel", "joins", "(III)I"⟩, 100), (⟨"SearchMillModel", "scraps", "()V"⟩, 100), (⟨"SearchMillModel", "readies", "(II)V"⟩, 100), (⟨"SearchMillModel", "laysGains", "(I)V"⟩, 100), (⟨"SearchMillModel", "rarity", "(IJ)I"⟩, 100), (⟨"SearchMillModel", "laysSeconds", "(I)V"⟩, 100), (⟨"SearchMillModel", "takes", "(II)Z"⟩, 100), (⟨"SearchMillModel", "bound", "(III)I"⟩, 100), (⟨"SearchMillModel", "fitsAt", "(IIII)Z"⟩, 100), (⟨"SearchMillModel", "fitsWord", "(JI)Z"⟩, 100)]
theorem lw_r6 : ∀ q ∈ lw_privs_6, lw_okq q := List.forall_mem_cons.mpr ⟨lw_p80, List.forall_mem_cons.mpr ⟨lw_p81, List.forall_mem_cons.mpr ⟨lw_p82, List.forall_mem_cons.mpr ⟨lw_p83, List.forall_mem_cons.mpr ⟨lw_p84, List.forall_mem_cons.mpr ⟨lw_p85, List.forall_mem_cons.mpr ⟨lw_p86, List.forall_mem_cons.mpr ⟨lw_p87, List.forall_mem_cons.mpr ⟨lw_p88, List.forall_mem_cons.mpr ⟨lw_p89, List.forall_mem_cons.mpr ⟨lw_p90, List.forall_mem_cons.mpr ⟨lw_p91, List.forall_mem_cons.mpr ⟨lw_p92, List.forall_mem_cons.mpr ⟨lw_p93, List.forall_mem_cons.mpr ⟨lw_p94, List.forall_mem_cons.mpr ⟨lw_p95, fun _ h => absurd h List.not_mem_nil⟩⟩⟩⟩⟩⟩⟩⟩⟩⟩⟩⟩⟩⟩⟩⟩
theorem lw_p96 : lw_okq (⟨"SearchMillModel", "begins", "(JJ)Z"⟩, 100) := ⟨⟨by decide +kernel, by decide +kernel⟩, List.mem_of_getElem? (i := 2005) (by decide +kernel), List.mem_of_getElem? (i := 2711) (by decide +kernel), List.mem_of_getElem? (i := 2712) (by decide +kernel)⟩
theorem lw_p97 : lw_okq (⟨"SearchMillModel", "isLike", "(JI)Z"⟩, 100) := ⟨⟨by decide +kernel, by decide +kernel⟩, List.mem_of_getElem? (i := 2005) (by decide +kernel), List.mem_of_getElem? (i := 2715) (by decide +kernel), List.mem_of_getElem? (i := 2716) (by decide +kernel)⟩
theorem lw_p98 : lw_okq (⟨"SearchMillModel", "edits", "(JJ)I"⟩, 100) := ⟨⟨by decide +kernel, by decide +kernel⟩, List.mem_of_getElem? (i := 2005) (by decide +kernel), List.mem_of_getElem? (i := 2719) (by decide +kernel), List.mem_of_getElem? (i := 2720) (by decide +kernel)⟩
theorem lw_p99 : lw_okq (⟨"SearchMillModel", "gives1", "(II)I"⟩, 100) := ⟨⟨by decide +kernel, by decide +kernel⟩, List.mem_of_getElem? (i := 2005) (by decide +kernel), List.mem_of_getElem? (i := 2726) (by decide +kernel), List.mem_of_getElem? (i := 2727) (by decide +kernel)⟩
theorem lw_p100 : lw_okq (⟨"SearchMillModel", "marks", "(II)I"⟩, 100) := ⟨⟨by decide +kernel, by decide +kernel⟩, List.mem_of_getElem? (i := 2005) (by decide +kernel), List.mem_of_getElem? (i := 2730) (by decide +kernel), List.mem_of_getElem? (i := 2731) (by decide +kernel)⟩
theorem lw_p101 : lw_okq (⟨"SearchMillModel", "isPhraseAt", "(III)Z"⟩, 100) := ⟨⟨by decide +kernel, by decide +kernel⟩, List.mem_of_getElem? (i := 2005) (by decide +kernel), List.mem_of_getElem? (i := 2734) (by decide +kernel), List.mem_of_getElem? (i := 2735) (by decide +kernel)⟩
theorem lw_p102 : lw_okq (⟨"SearchMillModel", "isNearAt", "(III)Z"⟩, 100) := ⟨⟨by decide +kernel, by decide +kernel⟩, List.mem_of_getElem? (i := 2005) (by decide +kernel), List.mem_of_getElem? (i := 2738) (by decide +kernel), List.mem_of_getElem? (i := 2739) (by decide +kernel)⟩
theorem lw_p103 : lw_okq (⟨"SearchMillModel", "holds", "(III)V"⟩, 100) := ⟨⟨by decide +kernel, by decide +kernel⟩, List.mem_of_getElem? (i := 2005) (by decide +kernel), List.mem_of_getElem? (i := 2745) (by decide +kernel), List.mem_of_getElem? (i := 2746) (by decide +kernel)⟩
theorem lw_p104 : lw_okq (⟨"SearchMillModel", "isAsked", "(II)Z"⟩, 100) := ⟨⟨by decide +kernel, by decide +kernel⟩, List.mem_of_getElem? (i := 2005) (by decide +kernel), List.mem_of_getElem? (i := 2769) (by decide +kernel), List.mem_of_getElem? (i := 2770) (by decide +kernel)⟩
theorem lw_p105 : lw_okq (⟨"SearchMillModel", "withKey", "(I)I"⟩, 100) := ⟨⟨by decide +kernel, by decide +kernel⟩, List.mem_of_getElem? (i := 2005) (by decide +kernel), List.mem_of_getElem? (i := 2773) (by decide +kernel), List.mem_of_getElem? (i := 2774) (by decide +kernel)⟩
theorem lw_p106 : lw_okq (⟨"SearchMillModel", "matching", "(III)I"⟩, 100) := ⟨⟨by decide +kernel, by decide +kernel⟩, List.mem_of_getElem? (i := 2005) (by decide +kernel), List.mem_of_getElem? (i := 2781) (by decide +kernel), List.mem_of_getElem? (i := 2782) (by decide +kernel)⟩
theorem lw_p107 : lw_okq (⟨"SearchMillModel", "passagesOf", "(IIII)I"⟩, 100) := ⟨⟨by decide +kernel, by decide +kernel⟩, List.mem_of_getElem? (i := 2005) (by decide +kernel), List.mem_of_getElem? (i := 2802) (by decide +kernel), List.mem_of_getElem? (i := 2803) (by decide +kernel)⟩
theorem lw_p108 : lw_okq (⟨"SearchMillModel", "laysMarks", "(III)I"⟩, 100) := ⟨⟨by decide +kernel, by decide +kernel⟩, List.mem_of_getElem? (i := 2005) (by decide +kernel), List.mem_of_getElem? (i := 2806) (by decide +kernel), List.mem_of_getElem? (i := 2807) (by decide +kernel)⟩
theorem lw_p109 : lw_okq (⟨"SearchMillModel", "passes", "(I)I"⟩, 100) := ⟨⟨by decide +kernel, by decide +kernel⟩, List.mem_of_getElem? (i := 2005) (by decide +kernel), List.mem_of_getElem? (i := 2810) (by decide +kernel), List.mem_of_getElem? (i := 2811) (by decide +kernel)⟩
theorem lw_p110 : lw_okq (⟨"SearchMillModel", "chooses", "(I)V"⟩, 100) := ⟨⟨by decide +kernel, by decide +kernel⟩, List.mem_of_getElem? (i := 2005) (by decide +kernel), List.mem_of_getElem? (i := 2814) (by decide +kernel), List.mem_of_getElem? (i := 2815) (by decide +kernel)⟩
theorem lw_p111 : lw_okq (⟨"SearchMillModel", "areMet", "(I)Z"⟩, 100) := ⟨⟨by decide +kernel, by decide +kernel⟩, List.mem_of_getElem? (i := 2005) (by decide +kernel), List.mem_of_getElem? (i := 2818) (by decide +kernel), List.mem_of_getElem? (i := 2819) (by decide +kernel)⟩
def lw_privs_7 : List (MethodName × Nat) := [(⟨"SearchMillModel", "begins", "(JJ)Z"⟩, 100), (⟨"SearchMillModel", "isLike", "(JI)Z"⟩, 100), (⟨"SearchMillModel", "edits", "(JJ)I"⟩, 100), (⟨"SearchMillModel", "gives1", "(II)I"⟩, 100), (⟨"SearchMillModel", "marks", "(II)I"⟩, 100), (⟨"SearchMillModel", "isPhraseAt", "(III)Z"⟩, 100), (⟨"SearchMillModel", "isNearAt", "(III)Z"⟩, 100), (⟨"SearchMillModel", "holds", "(III)V"⟩, 100), (⟨"SearchMillModel", "isAsked", "(II)Z"⟩, 100), (⟨"SearchMillModel", "withKey", "(I)I"⟩, 100), (⟨"SearchMillModel", "matching", "(III)I"⟩, 100), (⟨"SearchMillModel", "passagesOf", "(IIII)I"⟩, 100), (⟨"SearchMillModel", "laysMarks", "(III)I"⟩, 100), (⟨"SearchMillModel", "passes", "(I)I"⟩, 100), (⟨"SearchMillModel", "chooses", "(I)V"⟩, 100), (⟨"SearchMillModel", "areMet", "(I)Z"⟩, 100)]
theorem lw_r7 : ∀ q ∈ lw_privs_7, lw_okq q := List.forall_mem_cons.mpr ⟨lw_p96, List.forall_mem_cons.mpr ⟨lw_p97, List.forall_mem_cons.mpr ⟨lw_p98, List.forall_mem_cons.mpr ⟨lw_p99, List.forall_mem_cons.mpr ⟨lw_p100, List.forall_mem_cons.mpr ⟨lw_p101, List.forall_mem_cons.mpr ⟨lw_p102, List.forall_mem_cons.mpr ⟨lw_p103, List.forall_mem_cons.mpr ⟨lw_p104, List.forall_mem_cons.mpr ⟨lw_p105, List.forall_mem_cons.mpr ⟨lw_p106, List.forall_mem_cons.mpr ⟨lw_p107, List.forall_mem_cons.mpr ⟨lw_p108, List.forall_mem_cons.mpr ⟨lw_p109, List.forall_mem_cons.mpr ⟨lw_p110, List.forall_mem_cons.mpr ⟨lw_p111, fun _ h => absurd h List.not_mem_nil⟩⟩⟩⟩⟩⟩⟩⟩⟩⟩⟩⟩⟩⟩⟩⟩
theorem lw_p112 : lw_okq (⟨"SearchMillModel", "goesOn", "(II)Z"⟩, 100) := ⟨⟨by decide +kernel, by decide +kernel⟩, List.mem_of_getElem? (i := 2005) (by decide +kernel), List.mem_of_getElem? (i := 2822) (by decide +kernel), List.mem_of_getElem? (i := 2823) (by decide +kernel)⟩
def lw_privs_8 : List (MethodName × Nat) := [(⟨"SearchMillModel", "goesOn", "(II)Z"⟩, 100)]
theorem lw_r8 : ∀ q ∈ lw_privs_8, lw_okq q := List.forall_mem_cons.mpr ⟨lw_p112, fun _ h => absurd h List.not_mem_nil⟩
def lw_privs : List (MethodName × Nat) := lw_privs_1 ++ (lw_privs_2 ++ (lw_privs_3 ++ (lw_privs_4 ++ (lw_privs_5 ++ (lw_privs_6 ++ (lw_privs_7 ++ (lw_privs_8)))))))
def lw_tbl : List Cond := k2_sels lw_privs ++ tables_1
theorem lw_privs_ok : ∀ q ∈ lw_privs, lw_okq q := by
  show ∀ q ∈ lw_privs_1 ++ (lw_privs_2 ++ (lw_privs_3 ++ (lw_privs_4 ++ (lw_privs_5 ++ (lw_privs_6 ++ (lw_privs_7 ++ (lw_privs_8))))))), lw_okq q
  exact List.forall_mem_append.mpr ⟨lw_r1, List.forall_mem_append.mpr ⟨lw_r2, List.forall_mem_append.mpr ⟨lw_r3, List.forall_mem_append.mpr ⟨lw_r4, List.forall_mem_append.mpr ⟨lw_r5, List.forall_mem_append.mpr ⟨lw_r6, List.forall_mem_append.mpr ⟨lw_r7, lw_r8⟩⟩⟩⟩⟩⟩⟩
-- ===== end of PART A; then your names; then what follows =====
/-! THE CLAIM OUT OF ONE WALK OF THE LAW'S BODY. Your part is whole_start (and what it stands on); all else here is the same for every law, but numbers. -/
def R_law : String := "SearchMillLaw"
def lw_P (b : Addr) (xs : List Int32) (args : Array Value) (s : State) : Prop := args = #[.ref b] ∧ s.IntsAt b xs ∧ xs.length ≤ 6 ∧ (Jvm.Cond.and given_1 narrow_1).before args s = true
def lw_Q (_ : Array Value) (s : State) (o : Outcome) (t : State) : Prop := o = .returned (some (.int 1)) ∧ Framed s o t [] 600002 7302232
def lw_Z (below : List Frame) (a : Array Value) (s : State) : State → Prop := fun t => ∃ o, t.status = .running ∧ Ended t below o ∧ lw_Q a s o t
/-- the law's own end, with 1 on the stack, nothing written that was there before, its room as the claim has it -/
theorem lw_ret {p : Program} {l : Launch} {e : Env} {s : State} {m : MethodId} {below : List Frame} {meth : Method} {c : Code} {b : Nat} (hx : p.tables.exec = Jvm.exec) (hb : c.code = code) (hr : meth.sig.returnType = ret) (hlocks : meth.locks = false) {pc : Nat} {H : Heap} {ls : Array Slot} (hdg : decode code pc = .ok (.ireturn, 1)) : W p l e room_1 s m #[Value.ref b] below meth c H [] 600002 7302232 (lw_Z below #[Value.ref b] s) (F0 m pc ls [.int 1]) := by
  intro T hT X
  obtain ⟨fs, hret, hrun, hended, hW, hframe⟩ := X.leave (v := some (.int 1)) (hlocks := hlocks) (fun h => by rw [hr] at h; cases h)
  have hmeth' : T.vm.method? m = some meth := X.method'
  refine ⟨T.setFrames fs, ?_, .returned (some (.int 1)), hrun, hended, rfl, ⟨_, rfl⟩, hW, hframe⟩
  jvm_step X.here [X.here.top, hx, hb, hdg, hmeth', hr, ret, narrow_b1]
  (try refine ⟨rfl, ?_⟩); (try refine ⟨rfl, ?_⟩)
  first | (intro acts; rw [hret _ acts rfl rfl rfl]) | rw [hret _ _ rfl rfl rfl]
  exact Steps.refl _
/-- what holds at the law's entry: the machine, the code, the tables' words (any of lw_tbl by 'hts w (by decide +kernel)'), the script of L ints xs at the cell b, what the Statement gives of the start (any of its parts by flat_of_before) -/
def lw_At (p : Program) (s : State) (m : MethodId) (meth : Method) (c : Code) (b L : Nat) (xs : Nat → Int32) : Prop :=
  p.tables.exec = Jvm.exec ∧ c.code = code ∧ meth.sig.returnType = ret ∧ c.maxLocals = 7 ∧ s.vm.findClass R_law = some m.cls ∧ (∀ w ∈ lw_tbl, w.before #[Value.ref b] s = true) ∧ va_X b L xs s s.heap ∧ b < s.heap.size ∧ meth.locks = false ∧ (Jvm.Cond.and given_1 narrow_1).before #[Value.ref b] s = true
-- ===== YOUR PART BEGINS =====
/-- YOUR PART: from the entry, for every script of at most 6 ints, the law comes to its end with true ('hflags': the launch's flags, for a law that throws: no stack traces) -/
theorem whole_start {p : Program} {e : Env} {s : State} {m : MethodId} {below : List Frame} {meth : Method} {c : Code} (l : Launch) (hflags : l.flags = flags0) {b L : Nat} {xs : Nat → Int32} (hL : L ≤ 6) (C0 : lw_At p s m meth c b L xs) : W p l e room_1 s m #[Value.ref b] below meth c s.heap [] 0 0 (lw_Z below #[Value.ref b] s) (entryFrame m ([Value.ref b] : List Value).toArray 7) := by
  sorry
-- ===== YOUR PART ENDS =====
set_option maxHeartbeats 4000000 in
theorem lw_walk (l : Launch) (hflags : l.flags = flags0) (b : Addr) (xs : List Int32) : MetFree l x (headSpec (Jvm.Cond.code x code maxLocals ret :: tables_1) room_1) (lw_P b xs) (fun _ _ _ _ _ => True) lw_Q := by
  refine MetFree.of_bodyS (code := code) (maxLocals := maxLocals) (ret := ret) (by decide) ?_ ?_
  · intro args s m h hn
    obtain ⟨meth, c, h1, h2, h3, h4, h5, h6, -, -⟩ := Cond.code_spec hn (atoms_spec (ws := Jvm.Cond.code x code maxLocals ret :: tables_1) h _ List.mem_cons_self)
    exact ⟨meth, c, h1, h2, h3, h4, h5, h6⟩
  · intro p e s m args below meth c s₁ B hml0 hP _
    obtain ⟨rfl, hx, hbd, hgv⟩ := hP
    obtain ⟨scr, harrAt, hlist, hof, hsmall⟩ := hx
    obtain ⟨hcb, hkn, -, -⟩ := State.arrayAt?_spec harrAt
    have hown : s.vm.findClass R_law = some m.cls := findClass_of_methodNamed B.named
    have hts0 : ∀ c ∈ (Jvm.Cond.code x code maxLocals ret :: tables_1), c.before #[Value.ref b] s = true := atoms_spec (ws := Jvm.Cond.code x code maxLocals ret :: tables_1) B.pre
    have hts : ∀ w ∈ lw_tbl, w.before #[Value.ref b] s = true := k2_hts_sels lw_privs (fun w hw => hts0 w (List.mem_cons_of_mem _ hw)) lw_privs_ok
    have hml : c.maxLocals = 7 := B.maxLocals_eq (hts0 _ List.mem_cons_self)
    have X₀ : Stand p l e room_1 s m #[Value.ref b] below meth c s₁ [] 0 0 := Stand.of_body B
    have hh0 : s₁.heap = s.heap := by rw [B.state]; rfl
    have hsz : scr.slots.size = xs.length := by rw [← Array.length_toList, hlist, List.length_map]
    have hval : ∀ j : Nat, j < xs.length → scr.slots[j]? = some (.int (xs.getD j 0)) := fun j hj => by
      rw [← Array.getElem?_toList, hlist]
      simp [hj]
    have hbl : b < s.heap.size := (Array.getElem?_eq_some_iff.mp hcb).1
    have hX : va_X b xs.length (fun j => xs.getD j 0) s s.heap := ⟨scr, hcb, hof, hkn, hsz, hval⟩
    have K : W p l e room_1 s m #[Value.ref b] below meth c s₁.heap [] 0 0 (lw_Z below #[Value.ref b] s) (entryFrame m ([Value.ref b] : List Value).toArray 7) := by
      rw [hh0]
      exact whole_start l hflags hbd ⟨B.exec, B.bytes, B.returns, hml, hown, hts, hX, hbl, B.notSynchronized, hgv⟩
    obtain ⟨t, a1, o, b1, b2, b3⟩ := K s₁ rfl X₀
    exact ⟨t, o, a1, b1, b2, b3⟩
theorem lw_pre_spec {args : Array Value} {s : State} (h : (Jvm.Cond.and given_1 narrow_1).before args s = true) (hr : rest_1_c.before args s = true) : ∃ (b : Addr) (xs : List Int32), lw_P b xs args s := by
  have hs := flat_of_before _ h
  have hq := flat_of_before _ hr
  have hc : (Cond.count 1).before args s = true := hs _ (by decide +kernel)
  have harr : (Cond.arrayOf (.arg 0) .int).before args s = true := hs _ (by decide +kernel)
  have hle : (Cond.le (.length (.arg 0)) (.int 6)).before args s = true := hs _ (by decide +kernel)
  have hlen : (Cond.isInt (.length (.arg 0))).before args s = true := hq _ (by decide +kernel)
  have hall : (Cond.all (.arg 0) (.isInt (.elem (.arg 0) (.index 0)))).before args s = true := hq _ (by decide +kernel)
  obtain ⟨b, xs, hb, hx⟩ := State.ints_of_pre rfl harr hlen hall
  have hsm : xs.length < 2 ^ 31 := hx.choose_spec.2.2.2
  have hev : (Term.length (.arg 0)).eval args s none [] s = some (.int xs.length.toInt32) := hx.length_eval hb
  have hv := Cond.le_ints hev (show (Term.int 6).eval args s none [] s = some (.int 6) from rfl)
  have hd : xs.length.toInt32 ≤ 6 := by
    simpa [Cond.before, Cond.holds, hv] using hle
  have hN : xs.length ≤ 6 := (Int32.ofNat_le_ofNat hsm (by decide)).mp (show Int32.ofNat xs.length ≤ Int32.ofNat 6 from hd)
  exact ⟨b, xs, Cond.one_arg hc (show args[0]? = some (.ref b) from hb), hx, hN, h⟩
theorem lw_comes (l : Launch) (hflags : l.flags = flags0) : Comes l x (Jvm.Cond.code x code maxLocals ret :: tables_1) room_1 (fun tb e args s => Calls_1 tb e args s ∧ rest_1 tb e args s ∧ Pre_1 tb e args s)
    (fun _ _ args s o t => lw_Q args s o t) := by
  intro p e ha hc hk s m args below hf hfit hheap happ hpre
  obtain ⟨b, xs, hP⟩ := lw_pre_spec hpre.2.2 hpre.2.1
  obtain ⟨k, o, h1, h2, h3, hQ⟩ := lw_walk l hflags b xs p e ha hc hk s m args below hf ((Spec.applies_iff_loose hf).mp happ).1 hP trivial
  exact ⟨k, o, h1, h2, h3, hQ⟩
theorem lw_frame {s t : State} {o : Outcome} {args : Array Value} (h : Framed s o t [] 600002 7302232) :
    Framed s o t (fieldLocs frame_1_writes args s ++ arrayLocs frame_1_arrays args s ++ staticLocs frame_1_statics s) 600002 7302232 := h
theorem lw_limb (L : Cond) (hL : ∀ (args : Array Value) (s t : State), L.after args s (.returned (some (.int 1))) t = true) :
    ArmFor flags0 classFile x code maxLocals ret World_1 tables_1 room_1 Calls_1 rest_1 Pre_1
      (fun tb e a s o t => postC L tb e a s o t ∧ Framed s o t (fieldLocs frame_1_writes a s ++ arrayLocs frame_1_arrays a s ++ staticLocs frame_1_statics s) 600002 7302232) := by
  intro l hflags _ _ p e ha hc hk s m args below hf hfit hheap happ hpre
  obtain ⟨k, o, h1, h2, h3, rfl, hF⟩ := lw_comes l hflags p e ha hc hk s m args below hf hfit hheap happ hpre
  exact ⟨k, _, h1, h2, h3, hL args s _, lw_frame hF⟩
theorem i_vc : Claimed_1_1 ∧ Claimed_1_2 := ⟨lw_limb limb_1_1 (fun args s t => by simp [limb_1_1, Cond.after, Cond.holds, Cond.value]), lw_limb limb_1_2 (fun args s t => Cond.after_iff.mpr (by
  first | (rw [show limb_1_2 = Cond.eq .result (.int 1) from rfl, Cond.eq_ints (x := 1) (y := 1) rfl rfl]; simp; done) | (simp [limb_1_2, Cond.value, Term.eval]; done)))⟩

