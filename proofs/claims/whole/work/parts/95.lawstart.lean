/-! the law, from its entry -/
set_option maxRecDepth 20000 in
theorem lz_m1 : Cond.classLink RL 183 RX12 ∈ lWs := by first | (exact List.mem_of_getElem? (l := lWs) (i := lWs.length - 3) rfl) | decide +kernel
set_option maxRecDepth 20000 in
theorem lz_m2 : Cond.instantiable RX12 100 ∈ lWs := by first | (exact List.mem_of_getElem? (l := lWs) (i := lWs.length - 2) rfl) | decide +kernel
set_option maxRecDepth 20000 in
theorem lz_m3 : Cond.initialized RX12 ∈ lWs := by first | (exact List.mem_of_getElem? (l := lWs) (i := lWs.length - 1) rfl) | decide +kernel
set_option maxRecDepth 20000 in
theorem lz_m4 : Cond.methodLink RL 185 yX12_init ∈ lWs := by decide +kernel
set_option maxRecDepth 20000 in
theorem lz_m5 : Cond.instanceMethod yX12_init ∈ lWs := by decide +kernel
theorem lz_mc : Cond.code yX12_init cX12_init 4 none ∈ mWs := mWs_in 74 rfl
theorem k_pre {p : Program} {l : Launch} {s : State} {m : MethodId} {meth : Method} {c : Code} {b L : Nat} {xs : Nat → Int32} {D : va_G} {Y : cY} {tp dp : Nat} {S : cS} {H : Heap} {locs : List Loc} {av : List Value} (C : lC p l s m meth c b L xs D Y tp dp) (hP : va_P D vwCl (cWd Y S) H) (hD : va_D (lA s) (cWd Y S)) (hS : va_S (lA s) s.heap H locs) : FrameBlind (va_Pc av (cPre D Y tp dp S H.size)) ∧ ∀ U : State, U.heap = H → s.WarmedH U.vm → va_Pc av (cPre D Y tp dp S H.size) av.toArray U := by
  obtain ⟨hx, hb, hml, hown, hts, hK, hlo, hr, hX, hbl, hlt, hE⟩ := C
  refine ⟨fun a' U g' mk q => ?_, fun U hU hW => ?_⟩
  · obtain ⟨q0, q1, qP, qK, qD, qE⟩ := q
    exact ⟨q0, q1, qP, va_K.moved (u := U) (U := U.calling g' mk a') (Vm.Alike.refl U.vm) qK, qD, qE.same a' g' mk⟩
  · exact ⟨rfl, by rw [hU], by rw [hU]; exact hP, va_K.moved hW.alike hK, hD.weaken (fun _ _ _ _ => trivial), by rw [hU]; exact hE.go hW hS (fun q h => by
      rcases h with ⟨k, e, h⟩ | h
      · exact hD.2 k _ h
      · exact Nat.le_trans hS.1 h)⟩
def mD0 : List Value := (List.range 100).map (fun k => if mI.getD k 0 = 0 then .int 0 else .null)
set_option maxRecDepth 100000 in
theorem mD0_ok : ∀ j, j < 100 → defaultValue (tyX12 j) = vp_V mD0 j := by decide +kernel
theorem mD0_P {cI cJ cZ : ClassId} {h : Nat} : ([(h, .inr (15, mD0))] : va_W) = mP 0 cI cJ cZ (fun _ => h) (fun _ => 0) := by
  unfold mP
  show [(h, _)] = [(h, _)]
  congr 4
set_option maxHeartbeats 8000000 in
set_option maxRecDepth 100000 in
theorem whole_start {p : Program} {e : Env} {s : State} {m : MethodId} {below : List Frame} {meth : Method} {c : Code} (l : Launch) (hflags : l.flags = flags0) {b L : Nat} {xs : Nat → Int32} (hL : L ≤ 3072) (C0 : lw_At p s m meth c b L xs) : W p l e room_1 s m #[Value.ref b] below meth c s.heap [] 0 0 (lw_Z below #[Value.ref b] s) (entryFrame m ([Value.ref b] : List Value).toArray 7) := by
  obtain ⟨hx, hb, hr, hml, hown, hts, hX, hbl, hlocks, hgv⟩ := id C0
  obtain ⟨D, Y, hK⟩ := law_K hts
  obtain ⟨tp, dp, hE⟩ := law_env hts hgv
  have hlt : l.stackTraces = false := by simp [Launch.stackTraces, hflags, flags0] <;> decide
  have C : lC p l s m meth c b L xs D Y tp dp := ⟨hx, hb, hml, hown, hts, hK, hlocks, hr, hX, hbl, hlt, hE⟩
  have hA : ∀ q : Nat, s.heap.size ≤ q → lA s q := fun _ h => h
  have htc : ∀ w ∈ cWs, w.before #[Value.ref b] s = true := fun w h => hts w (cWs_tbl w h)
  have htm : ∀ w ∈ mWs, w.before #[Value.ref b] s = true := fun w h => hts w (mWs_tbl w h)
  have htl : ∀ w ∈ lWs, w.before #[Value.ref b] s = true := fun w h => hts w (lWs_tbl w h)
  have hS : va_S (lA s) s.heap s.heap [] := va_S.rf
  have hP : va_P D vwCl (cWd Y cE0) s.heap := fun k q h => by simp [cWd, va_pl, cE0, cL] at h
  have hD : va_D (lA s) (cWd Y cE0) := ⟨fun i j p q h => by simp [cWd, va_pl, cE0, cL] at h, fun k q h => by simp [cWd, va_pl, cE0, cL] at h⟩
  have hl := lv_entry ([.ref b]) (n := 7) (Nat.le_of_ble_eq_true rfl)
  rw [lg_entry_eq]
  generalize (lg_sl ([.ref b]) ++ List.replicate (7 - (lg_sl ([.ref b])).length) Slot.unset).toArray = ls at hl ⊢
  have hl : lv_has ls 7 [(0, .ref b)] := hl
  refine va_new (ci := 14) (fs := [.null, .null, .null, .null, .null, .int 0, .null, .null, .null, .int 0, .null, .null, .null, .null, .int 0, .int 0, .int 0, .int 0, .int 0]) (C := RX11) (T := TX11) (N := 19) hx hb htc cWs_wsX110 tyX11 tyX11_ok hown (htc _ cn_L_8) (htc _ ci_X11) (htc _ ct_X11) hK hP hD hS hA rfl (fun j_ hj_ => by rcases (show j_ = 0 ∨ j_ = 1 ∨ j_ = 2 ∨ j_ = 3 ∨ j_ = 4 ∨ j_ = 5 ∨ j_ = 6 ∨ j_ = 7 ∨ j_ = 8 ∨ j_ = 9 ∨ j_ = 10 ∨ j_ = 11 ∨ j_ = 12 ∨ j_ = 13 ∨ j_ = 14 ∨ j_ = 15 ∨ j_ = 16 ∨ j_ = 17 ∨ j_ = 18 by omega) with rfl | rfl | rfl | rfl | rfl | rfl | rfl | rfl | rfl | rfl | rfl | rfl | rfl | rfl | rfl | rfl | rfl | rfl | rfl <;> rfl) (Nat.le_of_ble_eq_true rfl) (Nat.le_of_ble_eq_true rfl) dL_law_0 (fun x H hP hD hS => ?_)
  have hfx : x ∉ cL cE0 := cWd_fresh hD
  obtain ⟨S0, hS0⟩ : ∃ S0, S0 = cNew cE0 x 11 := ⟨_, rfl⟩
  have hp0 : cWd Y cE0 ++ [(x, .inr (14, [.null, .null, .null, .null, .null, .int 0, .null, .null, .null, .int 0, .null, .null, .null, .null, .int 0, .int 0, .int 0, .int 0, .int 0]))] = cWd Y S0 := by
    subst hS0
    exact cWd_push hfx rfl ((cE_o (S := cNew cE0 x 11) (k := 11) (upR_s) (by decide)).trans (by simp [kC, cF, cV, kF, cNew, ci, cr, cw, zA, List.range, List.range.loop, va_rf])) (fun b hb => cE_eq (upR_n hb) (fun _ => if_neg hb) (fun _ => if_neg hb) (fun _ => if_neg hb) rfl rfl rfl rfl)
  rw [hp0] at hP hD
  have hmx : x ∈ cL S0 := hm_No hS0
  have hkx : cK S0 x = 11 := hk_No hS0
  refine lv_dup hx hb dL_law_3 rfl ?_
  have hpre := k_pre (av := [.ref x]) C hP hD hS
  have hF : ∀ q, va_A (cWd Y S0) H.size q → lA s q := fun q h => by
    rcases h with ⟨k, e, h⟩ | h
    · exact hD.2 k _ h
    · exact Nat.le_trans hS.1 h
  have hgo := lgoal_all xs L hL dp x
  rw [← hS0] at hgo
  obtain ⟨z1, z2, z3, z4, z5, z6, z7⟩ := cz_L_182
  have hb1 : CallB room_1 s #[Value.ref b] RL 182 yX11_init cX11_init 1 none (Cond.code yX11_init cX11_init 1 none :: cWs) (cRm 5 107 6671 113) 107 6671 0 := callB_of 0 htc (ccal_good z5) rfl rfl rfl (htc _ z3) (htc _ z2) ⟨z1.1, z1.2, z6⟩ ⟨by decide, by decide⟩
  refine va_callv (va_runI (As := []) (rest := [.ref x]) ⟨hx, hb, hml, hown, htc⟩ (t_X11_init l 107 6671 x S0 dp hgo D Y tp H.size) ⟨hb1, z7, htc _ z4⟩ hpre rfl rfl hl.1 rfl (lv_room (Nat.le_of_ble_eq_true rfl)) dL_law_4 ⟨Nat.le_of_ble_eq_true rfl, Nat.le_of_ble_eq_true rfl⟩) hS (fun q _ h => hF q h) hF (fun u t H1 locs1 ht hvm hw hB hz1 hk1 hS1 => ?_)
  obtain ⟨hP1, hK1, hD1⟩ := hB
  rw [ht] at hP1
  have hD1 : va_D (lA s) (cWd Y u) := hD1.weaken (fun k q _ h => hF q.1 h)
  clear hP hD hS hpre hF hz1 hk1
  refine lv_astore_n (lv' := [(1, .ref x), (0, .ref b)]) hx hb dL_law_7 rfl hl (by decide) rfl (fun ls hl => ?_)
  refine va_new (ci := 15) (fs := mD0) (C := RX12) (T := TX12) (N := 100) hx hb htm mWs_lay tyX12 tyX12_ok hown (htl _ lz_m1) (htl _ lz_m2) (htl _ lz_m3) hK hP1 hD1 hS1 hA rfl mD0_ok (Nat.le_of_ble_eq_true rfl) (Nat.le_of_ble_eq_true rfl) dL_law_8 (fun h H2 hP2 hD2 hS2 => ?_)
  rw [mD0_P (cI := Y.2.1) (cJ := Y.2.2.1) (cZ := Y.2.2.2.1)] at hP2 hD2
  refine lv_dup hx hb dL_law_11 rfl ?_
  have hKm : va_K D vwCl (mTys Y.2.1 Y.2.2.1 Y.2.2.2.1) s := hK.sub [1, 2, 3] rfl
  have hF2 : ∀ q, va_A (mP 0 Y.2.1 Y.2.2.1 Y.2.2.2.1 (fun _ => h) (fun _ => 0)) H2.size q → lA s q := fun q z => by
    rcases z with ⟨k, e, z⟩ | z
    · exact (vD_r hD2).2 k _ z
    · exact Nat.le_trans hS2.1 z
  have hG : GoodIn mWs (Cond.code yX12_init cX12_init 4 none :: mWs) := by
    intro w hw
    rcases List.mem_cons.mp hw with rfl | hw
    · exact mWs_good _ lz_mc
    · exact mWs_good _ hw
  have hb2 : CallB room_1 s #[Value.ref b] RL 185 yX12_init cX12_init 4 none (Cond.code yX12_init cX12_init 4 none :: mWs) (cRm 1 64 403136 30) 64 403136 0 := callB_of 0 htm hG rfl rfl rfl (htm _ mWs_ini) (htl _ lz_m4) ⟨by decide, by decide, by decide +kernel⟩ ⟨by decide, by decide⟩
  refine va_callv (va_runI (As := []) (rest := [.ref h]) ⟨hx, hb, hml, hown, htm⟩ (c_init l h D Y.2.1 Y.2.2.1 Y.2.2.2.1 H2.size) ⟨hb2, rfl, htl _ lz_m5⟩ ⟨fun a' U g' mk q => ?_, fun U hU hW => ?_⟩ rfl rfl hl.1 rfl (lv_room (Nat.le_of_ble_eq_true rfl)) dL_law_12 ⟨Nat.le_of_ble_eq_true rfl, Nat.le_of_ble_eq_true rfl⟩) hS2 (fun q _ z => hF2 q z) hF2 (fun um t H3 locs3 ht hvm hwm hB hz3 hk3 hS3 => ?_)
  · obtain ⟨q0, q1, qP, qK, qD⟩ := q
    exact ⟨q0, q1, qP, va_K.moved (u := U) (U := U.calling g' mk a') (Vm.Alike.refl U.vm) qK, qD⟩
  · exact ⟨rfl, by rw [hU], by rw [hU]; exact vP_r hP2, va_K.moved hW.alike hKm, (vD_r hD2).weaken (fun _ _ _ _ => trivial)⟩
  obtain ⟨a, v, f, g⟩ := um
  obtain ⟨⟨hPm, hKm2⟩, hDm⟩ := hB
  obtain ⟨ha0, hM⟩ := hwm
  rw [ht] at hPm
  obtain ⟨hP3, hD3⟩ := v_join_r hP2 hD2 hk3 hF2 hPm hDm
  refine lv_astore_n (lv' := [(2, .ref h), (1, .ref x), (0, .ref b)]) hx hb dL_law_15 rfl hl (by decide) rfl (fun ls hl => ?_)
  refine lv_iconst (v := nI 1) hx hb dL_law_16 rfl ?_
  refine va_newa (atype := .long) (ty := .long) (N' := 1) (a0 := (1, .inr (.inl (fun _ => 0)))) hx hb (htc _ ca_long) rfl hK hP3 hD3 hS3 hA (fun cA => rfl) (nI_pos (by decide)) (nI_clamp (by decide)) (by decide) (Nat.le_of_ble_eq_true rfl) (Nat.le_of_ble_eq_true rfl) dL_law_17 (fun out cA H4 hK4 hP4 hD4 hS4 => ?_)
  have ecA : cA = Y.2.2.1 := by
    have h1 := (hK4.2 6 (cA, .long) rfl).2
    have h2 := (hK.2 2 (Y.2.2.1, .long) rfl).2
    exact Option.some.inj (h1.symm.trans h2)
  subst ecA
  have hP4 := va_P.swap hP4
  have hD4 := va_D.swap hD4
  have hfo : out ∉ cL u := cWd_fresh (vD_l hD4)
  obtain ⟨S4, hS4'⟩ : ∃ S4, S4 = cNewA u out 15 1 := ⟨_, rfl⟩
  have hp4 : cWd Y u ++ [(out, .inl (Y.2.2.1, (1, .inr (.inl (fun _ => 0)))))] = cWd Y S4 := by
    subst hS4'
    exact cWd_push hfo rfl ((cE_J (S := cNewA u out 15 1) (upR_s)).trans (by rw [show cn (cNewA u out 15 1) out = 1 from upR_s, show cJ (cNewA u out 15 1) out = (fun _ => 0) from upR_s])) (fun b hb => cE_eq (upR_n hb) (fun _ => rfl) (fun _ => rfl) (fun _ => rfl) (upR_n hb) (upR_n hb) (upR_n hb) (upR_n hb))
  rw [hp4] at hP4 hD4
  have hloop := hw v f g hM out hfo _ hS4'
  refine lv_astore_n (lv' := [(3, .ref out), (2, .ref h), (1, .ref x), (0, .ref b)]) hx hb dL_law_19 rfl hl (by decide) rfl (fun ls hl => ?_)
  refine lv_iconst (v := nI 0) hx hb dL_law_20 rfl ?_
  refine lv_istore (lv' := [(4, .int (nI 0)), (3, .ref out), (2, .ref h), (1, .ref x), (0, .ref b)]) hx hb dL_law_21 hl (by decide) rfl (fun ls hl => ?_)
  have ha0' : a 0 = h := ha0
  rw [← ha0'] at hl
  exact lz_loop C (by omega) (nI 0) 174 409927 _ v f g hloop H4 _ ls hP4 hD4 hS4 hl
-- ===== YOUR PART ENDS =====
set_option maxHeartbeats 4000000 in
theorem lw_walk (l : Launch) (hflags : l.flags = flags0) (b : Addr) (xs : List Int32) : MetFree l x (headSpec (Jvm.Cond.code x code maxLocals ret :: tables_1) room_1) (lw_P b xs) (fun _ _ _ _ _ => True) lw_Q := by
  refine MetFree.of_bodyS (code := code) (maxLocals := maxLocals) (ret := ret) (by decide) ?_ ?_
  · intro args s m h hn
    obtain ⟨meth, c, h1, h2, h3, h4, h5, h6, -, -⟩ := Cond.code_spec hn (atoms_spec (ws := Jvm.Cond.code x code maxLocals ret :: tables_1) h _ List.mem_cons_self)
    exact ⟨meth, c, h1, h2, h3, h4, h5, h6⟩
  · intro p e s m args below meth c s₁ B hml0 hP _
    obtain ⟨rfl, hx, hbd, hgv⟩ := hP
    obtain ⟨scr, harrAt, hlist, hof, hsmall⟩ := hx
    obtain ⟨hcb, hkn, -, -⟩ := State.arrayAt?_spec harrAt
    have hown : s.vm.findClass R_law = some m.cls := findClass_of_methodNamed B.named
    have hts0 : ∀ c ∈ (Jvm.Cond.code x code maxLocals ret :: tables_1), c.before #[Value.ref b] s = true := atoms_spec (ws := Jvm.Cond.code x code maxLocals ret :: tables_1) B.pre
    have hts : ∀ w ∈ lw_tbl, w.before #[Value.ref b] s = true := k2_hts_sels lw_privs (fun w hw => hts0 w (List.mem_cons_of_mem _ hw)) lw_privs_ok
    have hml : c.maxLocals = 7 := B.maxLocals_eq (hts0 _ List.mem_cons_self)
    have X₀ : Stand p l e room_1 s m #[Value.ref b] below meth c s₁ [] 0 0 := Stand.of_body B
    have hh0 : s₁.heap = s.heap := by rw [B.state]; rfl
    have hsz : scr.slots.size = xs.length := by rw [← Array.length_toList, hlist, List.length_map]
    have hval : ∀ j : Nat, j < xs.length → scr.slots[j]? = some (.int (xs.getD j 0)) := fun j hj => by
      rw [← Array.getElem?_toList, hlist]
      simp [hj]
    have hbl : b < s.heap.size := (Array.getElem?_eq_some_iff.mp hcb).1
    have hX : va_X b xs.length (fun j => xs.getD j 0) s s.heap := ⟨scr, hcb, hof, hkn, hsz, hval⟩
    have K : W p l e room_1 s m #[Value.ref b] below meth c s₁.heap [] 0 0 (lw_Z below #[Value.ref b] s) (entryFrame m ([Value.ref b] : List Value).toArray 7) := by
      rw [hh0]
      exact whole_start l hflags hbd ⟨B.exec, B.bytes, B.returns, hml, hown, hts, hX, hbl, B.notSynchronized, hgv⟩
    obtain ⟨t, a1, o, b1, b2, b3⟩ := K s₁ rfl X₀
    exact ⟨t, o, a1, b1, b2, b3⟩
theorem lw_pre_spec {args : Array Value} {s : State} (h : (Jvm.Cond.and given_1 narrow_1).before args s = true) (hr : rest_1_c.before args s = true) : ∃ (b : Addr) (xs : List Int32), lw_P b xs args s := by
  have hs := flat_of_before _ h
  have hq := flat_of_before _ hr
  have hc : (Cond.count 1).before args s = true := hs _ (by decide +kernel)
  have harr : (Cond.arrayOf (.arg 0) .int).before args s = true := hs _ (by decide +kernel)
  have hle : (Cond.le (.length (.arg 0)) (.int 3072)).before args s = true := hs _ (by decide +kernel)
  have hlen : (Cond.isInt (.length (.arg 0))).before args s = true := hq _ (by decide +kernel)
  have hall : (Cond.all (.arg 0) (.isInt (.elem (.arg 0) (.index 0)))).before args s = true := hq _ (by decide +kernel)
  obtain ⟨b, xs, hb, hx⟩ := State.ints_of_pre rfl harr hlen hall
  have hsm : xs.length < 2 ^ 31 := hx.choose_spec.2.2.2
  have hev : (Term.length (.arg 0)).eval args s none [] s = some (.int xs.length.toInt32) := hx.length_eval hb
  have hv := Cond.le_ints hev (show (Term.int 3072).eval args s none [] s = some (.int 3072) from rfl)
  have hd : xs.length.toInt32 ≤ 3072 := by
    simpa [Cond.before, Cond.holds, hv] using hle
  have hN : xs.length ≤ 3072 := (Int32.ofNat_le_ofNat hsm (by decide)).mp (show Int32.ofNat xs.length ≤ Int32.ofNat 3072 from hd)
  exact ⟨b, xs, Cond.one_arg hc (show args[0]? = some (.ref b) from hb), hx, hN, h⟩
theorem lw_comes (l : Launch) (hflags : l.flags = flags0) : Comes l x (Jvm.Cond.code x code maxLocals ret :: tables_1) room_1 (fun tb e args s => Calls_1 tb e args s ∧ rest_1 tb e args s ∧ Pre_1 tb e args s)
    (fun _ _ args s o t => lw_Q args s o t) := by
  intro p e ha hc hk s m args below hf hfit hheap happ hpre
  obtain ⟨b, xs, hP⟩ := lw_pre_spec hpre.2.2 hpre.2.1
  obtain ⟨k, o, h1, h2, h3, hQ⟩ := lw_walk l hflags b xs p e ha hc hk s m args below hf ((Spec.applies_iff_loose hf).mp happ).1 hP trivial
  exact ⟨k, o, h1, h2, h3, hQ⟩
theorem lw_frame {s t : State} {o : Outcome} {args : Array Value} (h : Framed s o t [] room_1.cells room_1.slots) :
    Framed s o t (fieldLocs frame_1_writes args s ++ arrayLocs frame_1_arrays args s ++ staticLocs frame_1_statics s) room_1.cells room_1.slots := h
theorem lw_limb (L : Cond) (hL : ∀ (args : Array Value) (s t : State), L.after args s (.returned (some (.int 1))) t = true) :
    ArmFor flags0 classFile x code maxLocals ret World_1 tables_1 room_1 Calls_1 rest_1 Pre_1
      (fun tb e a s o t => postC L tb e a s o t ∧ Framed s o t (fieldLocs frame_1_writes a s ++ arrayLocs frame_1_arrays a s ++ staticLocs frame_1_statics s) room_1.cells room_1.slots) := by
  intro l hflags _ _ p e ha hc hk s m args below hf hfit hheap happ hpre
  obtain ⟨k, o, h1, h2, h3, rfl, hF⟩ := lw_comes l hflags p e ha hc hk s m args below hf hfit hheap happ hpre
  exact ⟨k, _, h1, h2, h3, hL args s _, lw_frame hF⟩
theorem i_vc : Claimed_1_1 ∧ Claimed_1_2 := ⟨lw_limb limb_1_1 (fun args s t => by simp [limb_1_1, Cond.after, Cond.holds, Cond.value]), lw_limb limb_1_2 (fun args s t => Cond.after_iff.mpr (by
  first | (rw [show limb_1_2 = Cond.eq .result (.int 1) from rfl, Cond.eq_ints (x := 1) (y := 1) rfl rfl]; simp; done) | (simp [limb_1_2, Cond.value, Term.eval]; done)))⟩

