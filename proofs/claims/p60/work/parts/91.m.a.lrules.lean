/-! the law of p60: rules that its methods need beside the class's -/
section LR6
variable {p : Program} {l : Launch} {e : Env} {R : Room} {s : State} {m : MethodId} {args : Array Value} {below : List Frame} {meth : Method} {c : Code} {cc : ByteArray} {nL : Nat} {ret : Option FieldType} {A : Nat → Prop} {D : va_G} {Y : cY} {tp dp : Nat} {own : String} {Q : State → Prop} {cells slots : Nat}
variable {pc : Nat} {lv lv' : List (Nat × Value)} {st st' : List Value} {S : cS}
theorem cg_ixor (C : cC p s m args meth c cc nL ret A D Y tp dp own) {x : Int32} {y : Int32} (d : decode cc pc = .ok (.ixor, 1)) (kk : cG p l e R s m args below meth c A D Y nL Q cells slots (pc + 1) lv (.int (x ^^^ y) :: st) S) : cG p l e R s m args below meth c A D Y nL Q cells slots pc lv (.int y :: .int x :: st) S := fun H locs ls hP hD hS hl => lv_ixor C.1 C.2.1 d (kk H locs ls hP hD hS hl)
theorem cg_land (C : cC p s m args meth c cc nL ret A D Y tp dp own) {x : Int64} {y : Int64} (d : decode cc pc = .ok (.land, 1)) (kk : cG p l e R s m args below meth c A D Y nL Q cells slots (pc + 1) lv (.long (x &&& y) :: st) S) : cG p l e R s m args below meth c A D Y nL Q cells slots pc lv (.long y :: .long x :: st) S := fun H locs ls hP hD hS hl => lv_land C.1 C.2.1 d (kk H locs ls hP hD hS hl)
theorem cg_lor (C : cC p s m args meth c cc nL ret A D Y tp dp own) {x : Int64} {y : Int64} (d : decode cc pc = .ok (.lor, 1)) (kk : cG p l e R s m args below meth c A D Y nL Q cells slots (pc + 1) lv (.long (x ||| y) :: st) S) : cG p l e R s m args below meth c A D Y nL Q cells slots pc lv (.long y :: .long x :: st) S := fun H locs ls hP hD hS hl => lv_lor C.1 C.2.1 d (kk H locs ls hP hD hS hl)
theorem cg_lshl (C : cC p s m args meth c cc nL ret A D Y tp dp own) {x : Int64} {y : Int32} (d : decode cc pc = .ok (.lshl, 1)) (kk : cG p l e R s m args below meth c A D Y nL Q cells slots (pc + 1) lv (.long (jSl x y) :: st) S) : cG p l e R s m args below meth c A D Y nL Q cells slots pc lv (.int y :: .long x :: st) S := fun H locs ls hP hD hS hl => lv_lshl C.1 C.2.1 d rfl (kk H locs ls hP hD hS hl)
theorem cg_lushr (C : cC p s m args meth c cc nL ret A D Y tp dp own) {x : Int64} {y : Int32} (d : decode cc pc = .ok (.lushr, 1)) (kk : cG p l e R s m args below meth c A D Y nL Q cells slots (pc + 1) lv (.long (jUs x y) :: st) S) : cG p l e R s m args below meth c A D Y nL Q cells slots pc lv (.int y :: .long x :: st) S := fun H locs ls hP hD hS hl => lv_lushr C.1 C.2.1 d rfl (kk H locs ls hP hD hS hl)
/-- a callee with a table of its own -/
def cCalW (own : String) (idx : Nat) (y : MethodName) (cc : ByteArray) (nL : Nat) (ret : Option FieldType) (hh : List (Nat × Nat × Nat × Nat)) (n : Nat) : Prop := (y.cls ≠ "java/lang/invoke/MethodHandle" ∧ y.cls ≠ "java/lang/invoke/VarHandle") ∧ Cond.methodLink own idx y ∈ cWs ∧ Cond.initialized y.cls ∈ cWs ∧ Cond.static y ∈ cWs ∧ Cond.codeWith y cc nL ret hh ∈ cWs ∧ (parseMethodDescriptor y.desc).map (fun d => d.parameters.length) = some n
theorem cg_callsWi (C : cC p s m args meth c cc nL ret A D Y tp dp own) {y : MethodName} {cc' : ByteArray} {nL' idx n fr mc ms lo F M N L : Nat} {hh : List (Nat × Nat × Nat × Nat)} {ret' : Option FieldType} {As : List Value} {stk : List Value} {post : Int32 → cS → Prop} (hM : cMetW (cQi post) l y cc' nL' ret' hh fr mc ms lo As S dp) (hc : cCalW own idx y cc' nL' ret' hh n) (hn : As.length = n) (hR : fr + 1 ≤ F ∧ 8 + (nL' + 11) + lo ≤ L) (hm : cells + mc ≤ M ∧ slots + ms ≤ N) (hst : stk = As.reverse ++ st) (hsz : (st.map fun v => v.category).sum ≤ 8) (d : decode cc pc = .ok (.invokestatic idx, 3)) (kk : ∀ (r : Int32) (S' : cS), post r S' → cG p l e (cRm F M N L) s m args below meth c A D Y nL Q (cells + mc) (slots + ms) (pc + 3) lv (.int r :: st) S') : cG p l e (cRm F M N L) s m args below meth c A D Y nL Q cells slots pc lv stk S := by
  intro H locs ls hP hD hS hlv
  have hp := c_pre (av := As) C hP hD hS
  obtain ⟨hx, hb, hml, hown, hts, hK, hlo, hr, hA, hE⟩ := C
  have hF := c_free hD hS hA
  obtain ⟨h1, h2, h3, h4, h5, h6⟩ := hc
  have hG : GoodIn cWs (va_wsS own idx y (Cond.codeWith y cc' nL' ret' hh :: cWs)) := by
    intro w hw
    unfold va_wsS at hw
    rcases List.mem_append.mp hw with hw | hw
    · rcases List.mem_cons.mp hw with rfl | hw
      · exact cWs_good _ h2
      rcases List.mem_cons.mp hw with rfl | hw
      · exact cWs_good _ h4
      rcases List.mem_cons.mp hw with rfl | hw
      · exact cWs_good _ h3
      exact nomatch hw
    · rcases List.mem_cons.mp hw with rfl | hw
      · exact cWs_good _ h5
      · exact cWs_good _ hw
  have cw : vx_CSW (cRm F M N L) s args own idx y cc' nL' ret' hh (Cond.codeWith y cc' nL' ret' hh :: cWs) (cRm fr mc ms lo) mc ms n := vx_cwSW n hts hG rfl rfl rfl ⟨h1.1, h1.2, h6⟩ hR
  refine va_calli (vx_runSW (As := As) (rest := st) (Ts := cWs) ⟨hx, hb, hml, hown, hts⟩ (hM D Y tp H.size) cw hp rfl hn hlv.1 hst (lv_room hsz) d hm) hS (fun q _ h => hF q h) hF (fun r u t H1 locs1 ht hvm hw hB hz1 hk1 hS1 => ?_)
  obtain ⟨hP1, hK1, hD1⟩ := hB
  rw [ht] at hP1
  exact kk r u hw H1 locs1 ls hP1 (hD1.weaken (fun k q _ h => hF q.1 h)) hS1 hlv
/-- the script, beside the pool: never written -/
abbrev cPrS (D : va_G) (Y : cY) (tp dp : Nat) (S : cS) (sz sc L : Nat) (xs : Nat → Int32) (U : State) : Prop := cPre D Y tp dp S sz U ∧ va_X sc L xs U U.heap ∧ sc < sz ∧ ¬ va_A (cWd Y S) sz sc
def cMetS (Qk : (D : va_G) → (Y : cY) → (A : Nat → Prop) → Array Value → State → Outcome → State → Prop) (l : Launch) (y : MethodName) (cc : ByteArray) (nL : Nat) (ret : Option FieldType) (fr mc ms lo : Nat) (av : List Value) (S : cS) (dp sc L : Nat) (xs : Nat → Int32) : Prop := ∀ (D : va_G) (Y : cY) (tp sz : Nat), Met l y (.code y cc nL ret :: cWs) (cRm fr mc ms lo) (va_Pc av (cPrS D Y tp dp S sz sc L xs)) (Qk D Y (va_A (cWd Y S) sz)) mc ms (va_A (cWd Y S) sz)
theorem cg_bodyS {y : MethodName} {fr mc ms lo sz sc L : Nat} {xs : Nat → Int32} {av : List Value} {Qc : Array Value → State → Outcome → State → Prop} (hy : plainName y.cls = true) (hlen : (lg_sl av).length ≤ nL)
    (body : ∀ (p : Program) (e : Env) (s : State) (m : MethodId) (args : Array Value) (below : List Frame) (meth : Method) (c : Code), cC p s m args meth c cc nL ret (va_A (cWd Y S) sz) D Y tp dp y.cls → va_X sc L xs s s.heap → sc < s.heap.size → ¬ va_A (cWd Y S) sz sc → cG p l e (cRm fr mc ms lo) s m args below meth c (va_A (cWd Y S) sz) D Y nL (MQ below Qc args s mc ms (va_A (cWd Y S) sz)) 0 0 0 (lv_args 0 av) [] S) : Met l y (.code y cc nL ret :: cWs) (cRm fr mc ms lo) (va_Pc av (cPrS D Y tp dp S sz sc L xs)) Qc mc ms (va_A (cWd Y S) sz) := by
  refine Met.ofW (cc := cc) (maxL := nL) (ret := ret) hy rfl ?_
  intro p e s m args below meth c s₁ B hml hv
  obtain ⟨rfl, ⟨hsz, hP, hK, hD0, hE⟩, hX, hbl, hbA⟩ := hv
  have hts := atoms_spec (ws := Cond.code y cc nL ret :: cWs) B.pre
  have hown : s.vm.findClass y.cls = some m.cls := findClass_of_methodNamed B.named
  have hl := lv_entry av (n := nL) hlen
  rw [lg_entry_eq]
  subst hsz
  exact body p e s m _ below meth c ⟨B.exec, B.bytes, hml, hown, fun w h => hts w (List.mem_cons_of_mem _ h), hK, B.notSynchronized, B.returns, fun q h => Or.inr h, hE⟩ hX hbl hbA s.heap [] _ hP hD0.self va_S.rf hl
variable {sc L : Nat} {xs : Nat → Int32}
theorem cg_scl (C : cC p s m args meth c cc nL ret A D Y tp dp own) (hX : va_X sc L xs s s.heap) (hbl : sc < s.heap.size) (hbA : ¬ A sc) (d : decode cc pc = .ok (.arraylength, 1)) (kk : cG p l e R s m args below meth c A D Y nL Q cells slots (pc + 1) lv (.int (nI L) :: st) S) : cG p l e R s m args below meth c A D Y nL Q cells slots pc lv (.ref sc :: st) S := by
  intro H locs ls hP hD hS hlv
  obtain ⟨hx, hb, hml, hown, hts, hK, hlo, hr, hA, hE⟩ := C
  exact va_slen hx hb hX hbl hbA hS d (kk H locs ls hP hD hS hlv)
theorem cg_scr (C : cC p s m args meth c cc nL ret A D Y tp dp own) (hX : va_X sc L xs s s.heap) (hbl : sc < s.heap.size) (hbA : ¬ A sc) {i : Int32} (hi : vp_in i L) (d : decode cc pc = .ok (.iaload, 1)) (kk : cG p l e R s m args below meth c A D Y nL Q cells slots (pc + 1) lv (.int (xs i.toNatClampNeg) :: st) S) : cG p l e R s m args below meth c A D Y nL Q cells slots pc lv (.int i :: .ref sc :: st) S := by
  intro H locs ls hP hD hS hlv
  obtain ⟨hx, hb, hml, hown, hts, hK, hlo, hr, hA, hE⟩ := C
  exact va_sld hx hb hX hbl hbA hS hi d (kk H locs ls hP hD hS hlv)
theorem c_preS {H : Heap} {locs : List Loc} {av : List Value} (C : cC p s m args meth c cc nL ret A D Y tp dp own) (hX : va_X sc L xs s s.heap) (hbl : sc < s.heap.size) (hbA : ¬ A sc) (hP : va_P D vwCl (cWd Y S) H) (hD : va_D A (cWd Y S)) (hS : va_S A s.heap H locs) : FrameBlind (va_Pc av (cPrS D Y tp dp S H.size sc L xs)) ∧ ∀ U : State, U.heap = H → s.WarmedH U.vm → va_Pc av (cPrS D Y tp dp S H.size sc L xs) av.toArray U := by
  have hp := c_pre (av := av) C hP hD hS
  obtain ⟨hx, hb, hml, hown, hts, hK, hlo, hr, hA, hE⟩ := C
  have hF := c_free hD hS hA
  refine ⟨fun a' U g' mk q => ?_, fun U hU hW => ?_⟩
  · have h2 := hp.1 a' U g' mk ⟨q.1, q.2.1⟩
    exact ⟨h2.1, h2.2, va_X.moved (u := U) (U := U.calling g' mk a') (Vm.Alike.refl U.vm) q.2.2.1, q.2.2.2⟩
  · have h2 := hp.2 U hU hW
    refine ⟨h2.1, h2.2, ?_, Nat.lt_of_lt_of_le hbl hS.1, fun z => hbA (hF _ z)⟩
    rw [hU]
    exact va_X.moved hW.alike (va_X.kept hX (hS.2.1 sc hbl hbA))
/-- a call over a taller stack -/
theorem vw_runS {y : MethodName} {bytes cc0 : ByteArray} {maxL nL0 mc ms n index W : Nat} {ret0 : Option FieldType} {ws : List Cond} {rm : Room} {Pc : Array Value → State → Prop} {Qc : Array Value → State → Outcome → State → Prop} {free : Addr → Prop} {Ts : List Cond} {own0 : String} {As rest : List Value} {g : JFrame} {H : Heap} {locs : List Loc} {cells slots : Nat} (S : CallFix p m c cc0 nL0 s args Ts own0) (hM : Met l y ws rm Pc Qc mc ms free) (cw : CallB R s args own0 index y bytes maxL ret0 ws rm mc ms n ∧ (Cond.static y).before args s = true) (hlo : W + (maxL + 11) + rm.locals ≤ R.locals) (hp : PreS s H Pc As) (hg : g.method = m) (hn : As.length = n) (hsize : g.locals.size = nL0) (hstack : g.stack = As.reverse ++ rest) (hW : 2 * g.monitorRoom + (rest.map fun v => v.category).sum ≤ W) (hdg : decode cc0 g.pc = .ok (.invokestatic index, 3)) (hf : cells + mc ≤ R.cells ∧ slots + ms ≤ R.slots) : va_Run p l e R s m args below meth c H locs cells slots mc ms g rest (Qc As.toArray) free := by
  obtain ⟨⟨k1, k2, k3, -, k5, k6, k7, k8, k9, k10, k11⟩, kst⟩ := cw
  obtain ⟨c1, c2, c3, c4, -⟩ := S
  have back : Back l R p e below s args y 3 W (PreOf R mc ms Pc) (PostOf Qc mc ms free) := back_of (bytes := bytes) (maxL := maxL) (ret := ret0) hM hp.1 k1 k2 k3 hlo k5 k6 (fun a' U hU => word_at hU (Or.inl (by first | rfl | simp [Cond.onTables, Cond.keeps, Cond.steady])) k8)
  intro T hT X
  obtain ⟨v, vm1, ⟨U', L1, n1, n2⟩, w1, X', ⟨g', mk, t, L, r1, r2, r3, r4, r5, r6, r7⟩, go⟩ := callS X c1 (bytes := bytes) (maxL := maxL) (ret := ret0) c4 k11 kst k8 k7 k9 back hg (hsize.trans c3.symm) (argsL := As) (rest := rest) (fun sig h => hn.trans (k10 sig h)) hstack hW (by rw [c2]; exact hdg) (fun vm1 w1 => ⟨hf.1, hf.2, hp.2 (T.setVm vm1) hT w1⟩)
  dsimp only [Pt.U, Pt.locs, Pt.cells, Pt.slots] at X' r1 r2 r4 r6 r7 go
  subst r4; subst r6; subst r7
  exact ⟨v, (T.setVm vm1).calling g' mk As.toArray, t, U', L, hT, X', r5, r1, r2, r3, go⟩
theorem cg_callSi (C : cC p s m args meth c cc nL ret A D Y tp dp own) (hX : va_X sc L xs s s.heap) (hbl : sc < s.heap.size) (hbA : ¬ A sc) {y : MethodName} {cc' : ByteArray} {nL' idx n fr mc ms lo F M N Lo : Nat} {ret' : Option FieldType} {As : List Value} {stk : List Value} {post : Int32 → cS → Prop} (hM : cMetS (cQi post) l y cc' nL' ret' fr mc ms lo As S dp sc L xs) (hc : cCal true own idx y cc' nL' ret' n) (hn : As.length = n) (hR : fr + 1 ≤ F ∧ 16 + (nL' + 11) + lo ≤ Lo) (hm : cells + mc ≤ M ∧ slots + ms ≤ N) (hst : stk = As.reverse ++ st) (hsz : (st.map fun v => v.category).sum ≤ 16) (d : decode cc pc = .ok (.invokestatic idx, 3)) (kk : ∀ (r : Int32) (S' : cS), post r S' → cG p l e (cRm F M N Lo) s m args below meth c A D Y nL Q (cells + mc) (slots + ms) (pc + 3) lv (.int r :: st) S') : cG p l e (cRm F M N Lo) s m args below meth c A D Y nL Q cells slots pc lv stk S := by
  intro H locs ls hP hD hS hlv
  have hp := c_preS (av := As) C hX hbl hbA hP hD hS
  obtain ⟨hx, hb, hml, hown, hts, hK, hlo, hr, hA, hE⟩ := C
  have hF := c_free hD hS hA
  obtain ⟨h1, h2, h3, h4, h5, h6⟩ := hc
  have hb1 : CallB (cRm F M N Lo) s args own idx y cc' nL' ret' (Cond.code y cc' nL' ret' :: cWs) (cRm fr mc ms lo) mc ms n := callB_of n hts (ccal_good h5) rfl rfl rfl (hts _ h3) (hts _ h2) ⟨h1.1, h1.2, h6⟩ ⟨hR.1, Nat.le_trans (by omega : 8 + (nL' + 11) + lo ≤ 16 + (nL' + 11) + lo) hR.2⟩
  refine va_calli (vw_runS (W := 16) (As := As) (rest := st) ⟨hx, hb, hml, hown, hts⟩ (hM D Y tp H.size) ⟨hb1, hts _ h4⟩ hR.2 hp rfl hn hlv.1 hst (by show 2 * 0 + _ ≤ 16; omega) d hm) hS (fun q _ h => hF q h) hF (fun r u t H1 locs1 ht hvm hw hB hz1 hk1 hS1 => ?_)
  obtain ⟨hP1, hK1, hD1⟩ := hB
  rw [ht] at hP1
  exact kk r u hw H1 locs1 ls hP1 (hD1.weaken (fun k q _ h => hF q.1 h)) hS1 hlv
end LR6
set_option maxRecDepth 20000 in
theorem cc_L_11 : cCal true RL 11 yL_word cL_word 4 (some .int) 3 := ⟨⟨by decide, by decide⟩, cWs_i6 80 rfl, cWs_i6 82 rfl, cWs_i6 81 rfl, cWs_i6 77 rfl, by decide +kernel⟩
set_option maxRecDepth 20000 in
theorem cc_L_17 : cCal true RL 17 yL_has cL_has 7 (some .boolean) 4 := ⟨⟨by decide, by decide⟩, cWs_i6 84 rfl, cWs_i6 82 rfl, cWs_i6 85 rfl, cWs_i6 79 rfl, by decide +kernel⟩
set_option maxRecDepth 20000 in
theorem cc_L_23 : cCal true RL 23 yL_count cL_count 6 (some .int) 3 := ⟨⟨by decide, by decide⟩, cWs_i6 89 rfl, cWs_i6 82 rfl, cWs_i6 90 rfl, cWs_i6 83 rfl, by decide +kernel⟩
set_option maxRecDepth 20000 in
theorem cc_L_26 : cCal true RL 26 yL_record cL_record 3 (some .int) 3 := ⟨⟨by decide, by decide⟩, cWs_i6 93 rfl, cWs_i6 82 rfl, cWs_i6 94 rfl, cWs_i6 86 rfl, by decide +kernel⟩
set_option maxRecDepth 20000 in
theorem cc_L_30 : cCal true RL 30 yL_rarity cL_rarity 12 (some .int) 6 := ⟨⟨by decide, by decide⟩, cWs_i6 96 rfl, cWs_i6 82 rfl, cWs_i6 97 rfl, cWs_i6 92 rfl, by decide +kernel⟩
set_option maxRecDepth 20000 in
theorem cc_L_34 : cCal true RL 34 yL_leafCount cL_leafCount 6 (some .int) 2 := ⟨⟨by decide, by decide⟩, cWs_i6 99 rfl, cWs_i6 82 rfl, cWs_i6 100 rfl, cWs_i6 88 rfl, by decide +kernel⟩
set_option maxRecDepth 20000 in
theorem cc_L_38 : cCal true RL 38 yL_strength cL_strength 1 (some .int) 1 := ⟨⟨by decide, by decide⟩, cWs_i6 101 rfl, cWs_i6 82 rfl, cWs_i6 102 rfl, cWs_i6 91 rfl, by decide +kernel⟩
set_option maxRecDepth 20000 in
theorem cc_L_42 : cCal true RL 42 yL_gives cL_gives 5 (some .int) 3 := ⟨⟨by decide, by decide⟩, cWs_i6 104 rfl, cWs_i6 82 rfl, cWs_i6 105 rfl, cWs_i6 98 rfl, by decide +kernel⟩
set_option maxRecDepth 20000 in
theorem cc_L_46 : cCal true RL 46 yL_gains cL_gains 8 none 5 := ⟨⟨by decide, by decide⟩, cWs_i6 107 rfl, cWs_i6 82 rfl, cWs_i6 108 rfl, cWs_i6 95 rfl, by decide +kernel⟩
set_option maxRecDepth 20000 in
theorem cc_L_50 : cCal true RL 50 yL_bound cL_bound 15 (some .int) 7 := ⟨⟨by decide, by decide⟩, cWs_i6 109 rfl, cWs_i6 82 rfl, cWs_i6 110 rfl, cWs_i6 106 rfl, by decide +kernel⟩
set_option maxRecDepth 20000 in
theorem cc_L_54 : cCal true RL 54 yL_rank cL_rank 7 (some .int) 3 := ⟨⟨by decide, by decide⟩, cWs_i6 111 rfl, cWs_i6 82 rfl, cWs_i6 112 rfl, cWs_i6 103 rfl, by decide +kernel⟩
set_option maxRecDepth 20000 in
theorem cc_L_57 : cCal true RL 57 yL_writes cL_writes 4 (some .boolean) 4 := ⟨⟨by decide, by decide⟩, cWs_i6 116 rfl, cWs_i6 82 rfl, cWs_i6 117 rfl, cWs_i6 114 rfl, by decide +kernel⟩
set_option maxRecDepth 20000 in
theorem cc_L_61 : cCal true RL 61 yL_tier cL_tier 1 (some .int) 1 := ⟨⟨by decide, by decide⟩, cWs_i6 120 rfl, cWs_i6 82 rfl, cWs_i6 121 rfl, cWs_i6 118 rfl, by decide +kernel⟩
set_option maxRecDepth 20000 in
theorem cc_L_64 : cCal true RL 64 yL_isIn cL_isIn 4 (some .boolean) 2 := ⟨⟨by decide, by decide⟩, cWs_i6 125 rfl, cWs_i6 82 rfl, cWs_i6 126 rfl, cWs_i6 123 rfl, by decide +kernel⟩
set_option maxRecDepth 20000 in
theorem cc_L_118 : cCal true RL 118 yL_types cL_types 2 none 2 := ⟨⟨by decide, by decide⟩, cWs_i7 16 rfl, cWs_i6 82 rfl, cWs_i7 17 rfl, cWs_i7 12 rfl, by decide +kernel⟩
set_option maxRecDepth 20000 in
theorem cc_L_157 : cCal true RL 157 yL_find cL_find 21 none 9 := ⟨⟨by decide, by decide⟩, cWs_i7 53 rfl, cWs_i6 82 rfl, cWs_i7 54 rfl, cWs_i6 113 rfl, by decide +kernel⟩
set_option maxRecDepth 20000 in
theorem cc_L_205 : cCalW RL 205 yL_did cL_did 3 (some .int) [(0, 114, 115, 73)] 2 := ⟨⟨by decide, by decide⟩, cWs_i7 99 rfl, cWs_i6 82 rfl, cWs_i7 100 rfl, cWs_i7 7 rfl, by decide +kernel⟩
set_option maxRecDepth 20000 in
theorem cc_L_209 : cCal true RL 209 yL_due cL_due 5 (some .int) 3 := ⟨⟨by decide, by decide⟩, cWs_i7 101 rfl, cWs_i6 82 rfl, cWs_i7 102 rfl, cWs_i6 119 rfl, by decide +kernel⟩
set_option maxRecDepth 20000 in
theorem cc_L_212 : cCal true RL 212 yL_files cL_files 13 (some .int) 7 := ⟨⟨by decide, by decide⟩, cWs_i7 103 rfl, cWs_i6 82 rfl, cWs_i7 104 rfl, cWs_i6 124 rfl, by decide +kernel⟩
set_option maxRecDepth 20000 in
theorem cc_L_221 : cCal true RL 221 yL_ones cL_ones 3 (some .int) 1 := ⟨⟨by decide, by decide⟩, cWs_i7 111 rfl, cWs_i6 82 rfl, cWs_i7 112 rfl, cWs_i6 127 rfl, by decide +kernel⟩
set_option maxRecDepth 20000 in
theorem cc_L_231 : cCal true RL 231 yL_tokens cL_tokens 6 (some .int) 2 := ⟨⟨by decide, by decide⟩, cWs_i7 122 rfl, cWs_i6 82 rfl, cWs_i7 123 rfl, cWs_i7 52 rfl, by decide +kernel⟩
set_option maxRecDepth 20000 in
theorem cc_L_238 : cCalW RL 238 yL_added cL_added 3 (some .int) [(0, 5, 6, 73)] 2 := ⟨⟨by decide, by decide⟩, cWs_i7 127 rfl, cWs_i6 82 rfl, cWs_i7 128 rfl, cWs_i6 132 rfl, by decide +kernel⟩
set_option maxRecDepth 20000 in
theorem cc_L_241 : cCal true RL 241 yL_deletes cL_deletes 13 (some .int) 8 := ⟨⟨by decide, by decide⟩, cWs_i7 129 rfl, cWs_i6 82 rfl, cWs_i7 130 rfl, cWs_i7 117 rfl, by decide +kernel⟩
set_option maxRecDepth 20000 in
theorem cc_L_245 : cCal true RL 245 yL_flushed cL_flushed 13 (some .int) 11 := ⟨⟨by decide, by decide⟩, cWs_i7 134 rfl, cWs_i6 82 rfl, cWs_i7 135 rfl, cWs_i6 115 rfl, by decide +kernel⟩
set_option maxRecDepth 20000 in
theorem cc_L_249 : cCal true RL 249 yL_names cL_names 5 none 4 := ⟨⟨by decide, by decide⟩, cWs_i7 136 rfl, cWs_i6 82 rfl, cWs_i7 137 rfl, cWs_i6 122 rfl, by decide +kernel⟩
set_option maxRecDepth 20000 in
theorem cc_L_256 : cCal true RL 256 yL_copy cL_copy 3 (some (.array .int)) 1 := ⟨⟨by decide, by decide⟩, cWs_i7 141 rfl, cWs_i6 82 rfl, cWs_i7 142 rfl, cWs_i7 133 rfl, by decide +kernel⟩
set_option maxRecDepth 20000 in
theorem cc_L_260 : cCalW RL 260 yL_looked cL_looked 3 (some .int) [(0, 5, 6, 73)] 2 := ⟨⟨by decide, by decide⟩, cWs_i7 145 rfl, cWs_i6 82 rfl, cWs_i7 146 rfl, cWs_i7 11 rfl, by decide +kernel⟩
set_option maxRecDepth 20000 in
theorem cc_L_265 : cCal true RL 265 yL_isReady cL_isReady 2 (some .boolean) 1 := ⟨⟨by decide, by decide⟩, cWs_i7 153 rfl, cWs_i6 82 rfl, cWs_i7 154 rfl, cWs_i7 51 rfl, by decide +kernel⟩
set_option maxRecDepth 20000 in
theorem cc_L_270 : cCal true RL 270 yL_from cL_from 4 (some .int) 3 := ⟨⟨by decide, by decide⟩, cWs_i7 155 rfl, cWs_i6 82 rfl, cWs_i7 156 rfl, cWs_i6 74 rfl, by decide +kernel⟩
set_option maxRecDepth 20000 in
theorem cc_L_274 : cCal true RL 274 yL_isAdded cL_isAdded 18 (some .boolean) 10 := ⟨⟨by decide, by decide⟩, cWs_i7 157 rfl, cWs_i6 82 rfl, cWs_i7 158 rfl, cWs_i7 131 rfl, by decide +kernel⟩
set_option maxRecDepth 20000 in
theorem cc_L_278 : cCalW RL 278 yL_deleted cL_deleted 3 (some .int) [(0, 13, 14, 73)] 2 := ⟨⟨by decide, by decide⟩, cWs_i7 159 rfl, cWs_i6 82 rfl, cWs_i8 0 rfl, cWs_i6 136 rfl, by decide +kernel⟩
set_option maxRecDepth 20000 in
theorem cc_L_281 : cCal true RL 281 yL_isMerged cL_isMerged 16 (some .boolean) 12 := ⟨⟨by decide, by decide⟩, cWs_i8 1 rfl, cWs_i6 82 rfl, cWs_i8 2 rfl, cWs_i7 132 rfl, by decide +kernel⟩
set_option maxRecDepth 20000 in
theorem cc_L_285 : cCal true RL 285 yL_isCommitted cL_isCommitted 17 (some .boolean) 15 := ⟨⟨by decide, by decide⟩, cWs_i8 3 rfl, cWs_i6 82 rfl, cWs_i8 4 rfl, cWs_i7 143 rfl, by decide +kernel⟩
set_option maxRecDepth 20000 in
theorem cc_L_293 : cCal true RL 293 yL_opens cL_opens 7 (some .boolean) 6 := ⟨⟨by decide, by decide⟩, cWs_i8 8 rfl, cWs_i6 82 rfl, cWs_i8 9 rfl, cWs_i7 144 rfl, by decide +kernel⟩
set_option maxRecDepth 20000 in
theorem cc_L_297 : cCal true RL 297 yL_looks cL_looks 9 (some .boolean) 7 := ⟨⟨by decide, by decide⟩, cWs_i8 10 rfl, cWs_i6 82 rfl, cWs_i8 11 rfl, cWs_i7 147 rfl, by decide +kernel⟩
set_option maxRecDepth 20000 in
theorem cc_L_304 : cCal true RL 304 yL_isFound cL_isFound 13 (some .boolean) 9 := ⟨⟨by decide, by decide⟩, cWs_i8 15 rfl, cWs_i6 82 rfl, cWs_i8 16 rfl, cWs_i7 70 rfl, by decide +kernel⟩
set_option maxRecDepth 20000 in
theorem cc_L_308 : cCal true RL 308 yL_isPlain cL_isPlain 24 (some .boolean) 6 := ⟨⟨by decide, by decide⟩, cWs_i8 17 rfl, cWs_i6 82 rfl, cWs_i8 18 rfl, cWs_i7 92 rfl, by decide +kernel⟩
set_option maxRecDepth 20000 in
theorem cc_L_312 : cCal true RL 312 yL_isIndex cL_isIndex 14 (some .boolean) 11 := ⟨⟨by decide, by decide⟩, cWs_i8 19 rfl, cWs_i6 82 rfl, cWs_i8 20 rfl, cWs_i7 116 rfl, by decide +kernel⟩
set_option maxRecDepth 20000 in
theorem cc_L_316 : cCal true RL 316 yL_holds cL_holds 24 (some .boolean) 1 := ⟨⟨by decide, by decide⟩, cWs_i8 23 rfl, cWs_i6 82 rfl, cWs_i8 24 rfl, cWs_i8 21 rfl, by decide +kernel⟩
set_option maxRecDepth 20000 in
theorem cc_L_324 : cCalW RL 324 yL_isHeld cL_isHeld 2 (some .boolean) [(0, 4, 5, 320), (0, 4, 8, 322), (0, 4, 11, 73)] 1 := ⟨⟨by decide, by decide⟩, cWs_i8 26 rfl, cWs_i6 82 rfl, cWs_i8 27 rfl, cWs_i8 25 rfl, by decide +kernel⟩
theorem ckw_L_7 : Cond.constant RL 7 (231547) ∈ cWs := cWs_i6 75 rfl
theorem ckw_L_8 : Cond.constant RL 8 (2147483647) ∈ cWs := cWs_i6 76 rfl
theorem ckw_L_227 : Cond.constant RL 227 (65535) ∈ cWs := cWs_i7 118 rfl
theorem ckw_L_269 : Cond.constant RL 269 (10000000) ∈ cWs := cWs_i7 150 rfl
