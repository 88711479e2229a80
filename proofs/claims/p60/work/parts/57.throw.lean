/-! the class: exceptions thrown, passed on, caught -/
section CGX
variable {p : Program} {l : Launch} {e : Env} {R : Room} {s : State} {m : MethodId} {args : Array Value} {below : List Frame} {meth : Method} {c : Code} {cc : ByteArray} {nL : Nat} {ret : Option FieldType} {A : Nat → Prop} {D : va_G} {Y : cY} {tp dp : Nat} {own : String} {Q : State → Prop} {cells slots : Nat}
variable {pc : Nat} {lv lv' : List (Nat × Value)} {st : List Value} {S : cS}
abbrev cXB (E : String) (px : cS → Prop) (D : va_G) (Y : cY) (A : Nat → Prop) : String → State → State → Prop := vx_X (S := cS) px (fun E' v t => E' = E ∧ cB D Y A v t) A
/-- a method that throws E, with a pool of px behind it -/
def cMetX (E : String) (px : cS → Prop) (l : Launch) (y : MethodName) (cc : ByteArray) (nL : Nat) (ret : Option FieldType) (fr mc ms lo : Nat) (av : List Value) (S : cS) (dp : Nat) : Prop := ∀ (D : va_G) (Y : cY) (tp sz : Nat), vx_Met l y (.code y cc nL ret :: cWs) (cRm fr mc ms lo) (va_Pc av (cPre D Y tp dp S sz)) (fun _ _ _ _ => False) (cXB E px D Y (va_A (cWd Y S) sz)) mc ms (va_A (cWd Y S) sz)
/-- .. and one with a table of its own, that returns -/
def cMetW (Qk : (D : va_G) → (Y : cY) → (A : Nat → Prop) → Array Value → State → Outcome → State → Prop) (l : Launch) (y : MethodName) (cc : ByteArray) (nL : Nat) (ret : Option FieldType) (hh : List (Nat × Nat × Nat × Nat)) (fr mc ms lo : Nat) (av : List Value) (S : cS) (dp : Nat) : Prop := ∀ (D : va_G) (Y : cY) (tp sz : Nat), Met l y (.codeWith y cc nL ret hh :: cWs) (cRm fr mc ms lo) (va_Pc av (cPre D Y tp dp S sz)) (Qk D Y (va_A (cWd Y S) sz)) mc ms (va_A (cWd Y S) sz)
theorem cg_bodyX {y : MethodName} {fr mc ms lo sz : Nat} {av : List Value} {Qc : Array Value → State → Outcome → State → Prop} {XC : String → State → State → Prop} (hy : plainName y.cls = true) (hlen : (lg_sl av).length ≤ nL)
    (body : ∀ (p : Program) (e : Env) (s : State) (m : MethodId) (args : Array Value) (below : List Frame) (meth : Method) (c : Code), cC p s m args meth c cc nL ret (va_A (cWd Y S) sz) D Y tp dp y.cls → (∀ x ∈ c.exceptionTable.toList, False) → cG p l e (cRm fr mc ms lo) s m args below meth c (va_A (cWd Y S) sz) D Y nL (vx_MQ below Qc XC args s mc ms (va_A (cWd Y S) sz)) 0 0 0 (lv_args 0 av) [] S) : vx_Met l y (.code y cc nL ret :: cWs) (cRm fr mc ms lo) (va_Pc av (cPre D Y tp dp S sz)) Qc XC mc ms (va_A (cWd Y S) sz) := by
  refine vx_ofW (cc := cc) (maxL := nL) (ret := ret) hy rfl ?_
  intro p e s m args below meth c s₁ B hml ht hv
  obtain ⟨rfl, hsz, hP, hK, hD0, hE⟩ := hv
  have hts := atoms_spec (ws := Cond.code y cc nL ret :: cWs) B.pre
  have hown : s.vm.findClass y.cls = some m.cls := findClass_of_methodNamed B.named
  have hl := lv_entry av (n := nL) hlen
  rw [lg_entry_eq]
  subst hsz
  exact body p e s m _ below meth c ⟨B.exec, B.bytes, hml, hown, fun w h => hts w (List.mem_cons_of_mem _ h), hK, B.notSynchronized, B.returns, fun q h => Or.inr h, hE⟩ ht s.heap [] _ hP hD0.self va_S.rf hl
theorem cg_bodyW {y : MethodName} {hh : List (Nat × Nat × Nat × Nat)} {fr mc ms lo sz : Nat} {av : List Value} {Qc : Array Value → State → Outcome → State → Prop} (hy : plainName y.cls = true) (hlen : (lg_sl av).length ≤ nL)
    (body : ∀ (p : Program) (e : Env) (s : State) (m : MethodId) (args : Array Value) (below : List Frame) (meth : Method) (c : Code), cC p s m args meth c cc nL ret (va_A (cWd Y S) sz) D Y tp dp y.cls → c.exceptionTable.toList = tableOf hh → cG p l e (cRm fr mc ms lo) s m args below meth c (va_A (cWd Y S) sz) D Y nL (MQ below Qc args s mc ms (va_A (cWd Y S) sz)) 0 0 0 (lv_args 0 av) [] S) : Met l y (.codeWith y cc nL ret hh :: cWs) (cRm fr mc ms lo) (va_Pc av (cPre D Y tp dp S sz)) Qc mc ms (va_A (cWd Y S) sz) := by
  refine va_MetW (cc := cc) (maxL := nL) (ret := ret) (hh := hh) hy rfl ?_
  intro p e s m args below meth c s₁ B hml hv
  obtain ⟨rfl, hsz, hP, hK, hD0, hE⟩ := hv
  have hts := atoms_spec (ws := Cond.codeWith y cc nL ret hh :: cWs) B.pre
  have hown : s.vm.findClass y.cls = some m.cls := findClass_of_methodNamed B.named
  have hl := lv_entry av (n := nL) hlen
  rw [lg_entry_eq]
  subst hsz
  exact body p e s m _ below meth c ⟨B.exec, B.bytes, hml, hown, fun w h => hts w (List.mem_cons_of_mem _ h), hK, B.notSynchronized, B.returns, fun q h => Or.inr h, hE⟩ (vx_table (x := y) B (hts _ List.mem_cons_self)) s.heap [] _ hP hD0.self va_S.rf hl
def cXw (E : String) : List Cond := [.castable E E, .declares (Bundle.initS "java/lang/RuntimeException"), .declares (Bundle.initS "java/lang/Exception"), .declares (Bundle.initS Bundle.tN)]
set_option maxRecDepth 100000 in
theorem cXat_1 (C : cC p s m args meth c cc nL ret A D Y tp dp own) : ∀ w ∈ vx_atS RX11 104 "java/lang/IllegalArgumentException" ["java/lang/RuntimeException", "java/lang/Exception"], w.before args s = true := by
  refine vx_hat (B := cXw "java/lang/IllegalArgumentException") (fun w h => C.2.2.2.2.1 w (cWs_cWx _ ?_)) ?_ ?_
  · first | exact List.mem_append_left _ (List.mem_append_left _ h) | exact List.mem_append_left _ h | exact List.mem_append_right _ h | exact List.mem_append_right _ (List.mem_append_left _ h) | exact List.mem_append_right _ (List.mem_append_right _ h)
  · have h : ((vx_atS RX11 104 "java/lang/IllegalArgumentException" ["java/lang/RuntimeException", "java/lang/Exception"]).filter (fun w => !goodWord w)).all (fun w => decide (w ∈ cXw "java/lang/IllegalArgumentException")) = true := by decide +kernel
    exact fun w hw => of_decide_eq_true (List.all_eq_true.mp h w hw)
  · have hE := C.2.2.2.2.2.2.2.2.2.2.2.2.2.2.2.2
    intro w hw
    rcases List.mem_cons.mp hw with rfl | hw
    · exact va_Nw.use rfl (hE.1 ("java/lang/IllegalArgumentException", "java/lang/IllegalArgumentException") (by decide))
    rcases List.mem_cons.mp hw with rfl | hw
    · exact va_Nw.use rfl (hE.2.1 _ (by decide))
    rcases List.mem_cons.mp hw with rfl | hw
    · exact va_Nw.use rfl (hE.2.1 _ (by decide))
    rcases List.mem_cons.mp hw with rfl | hw
    · exact va_Nw.use rfl (hE.2.1 _ (by decide))
    exact nomatch hw
set_option maxRecDepth 100000 in
theorem cXgd_1 : ∀ ik, ∀ w ∈ Cond.classLink RX11 ik "java/lang/IllegalArgumentException" :: Cond.initialized "java/lang/IllegalArgumentException" :: vx_atS RX11 104 "java/lang/IllegalArgumentException" ["java/lang/RuntimeException", "java/lang/Exception"], vx_ot w = true := by
  intro ik w hw
  rcases List.mem_cons.mp hw with rfl | hw
  · rfl
  rcases List.mem_cons.mp hw with rfl | hw
  · rfl
  have h : (vx_atS RX11 104 "java/lang/IllegalArgumentException" ["java/lang/RuntimeException", "java/lang/Exception"]).all vx_ot = true := by decide +kernel
  exact List.all_eq_true.mp h w hw
theorem cg_throw1 (C : cC p s m args meth c cc nL ret A D Y tp dp RX11) (hl : l.stackTraces = false) (hne : ∀ x ∈ c.exceptionTable.toList, False) {ik is mc ms F M N L : Nat} (text : String) (hk : Cond.classLink RX11 ik "java/lang/IllegalArgumentException" ∈ cWs) (hini : Cond.initialized "java/lang/IllegalArgumentException" ∈ cWs) (hstr : (is, text) ∈ cStr)
    (d0 : decode cc pc = .ok (.new ik, 3)) (d3 : decode cc (pc + 3) = .ok (.dup, 1)) (d4 : decode cc (pc + 4) = .ok (.ldc is, 2)) (d6 : decode cc (pc + 6) = .ok (.invokespecial 104, 3)) (d9 : decode cc (pc + 9) = .ok (.athrow, 1))
    (hF : 5 < F) (hL : (st.map fun v => v.category).sum + 82 ≤ L) (hM : cells + 1 ≤ M ∧ slots + 6 ≤ N) (hm : cells + 1 ≤ mc ∧ slots + 6 ≤ ms) {px : cS → Prop} (hpx : px S) : cG p l e (cRm F M N L) s m args below meth c A D Y nL (vx_MQ below (fun _ _ _ _ => False) (cXB "java/lang/IllegalArgumentException" px D Y A) args s mc ms A) cells slots pc lv st S := by
  intro H locs ls hP hD hS hlv
  have hat := cXat_1 C
  obtain ⟨hx, hb, hml, hown, hts, hK, hlo, hr, hA, hE⟩ := C
  obtain ⟨sa, hsa⟩ := hE.2.2.2.2.2.2.1 _ hstr
  exact vx_throwS (names := ["java/lang/RuntimeException", "java/lang/Exception"]) hx hb hl hown (by decide +kernel) (by decide +kernel) (hts _ hk) (hts _ hini) hsa hat (cXgd_1 ik) hE.2.2.2.2.1 hE.2.2.2.2.2.1 hS (hlv.1.trans hml.symm) d0 d3 d4 d6 d9 (fun x hx => (hne x hx).elim) hF hL hM.1 hM.2 hlo
    (fun t al hz hk => ⟨S, hpx, ⟨rfl, hP.kept (fun k q hq => hk _ (vx_lt hP hq)), va_K.moved al hK, hD⟩, Nat.le_trans hS.1 hz, fun q h1 h2 => (hk q (Nat.lt_of_lt_of_le h1 hS.1)).trans (hS.2.1 q h1 h2)⟩) hS.2.2 hm.1 hm.2
theorem cg_throw1W (C : cC p s m args meth c cc nL ret A D Y tp dp RX11) (hl : l.stackTraces = false) (hne : ∀ x ∈ c.exceptionTable.toList, False) {ik is mc ms F M N L : Nat} (text : String) (hk : Cond.classLink RX11 ik "java/lang/IllegalArgumentException" ∈ cWs) (hini : Cond.initialized "java/lang/IllegalArgumentException" ∈ cWs) (hstr : (is, text) ∈ cStr)
    (d0 : decode cc pc = .ok (.new ik, 3)) (d3 : decode cc (pc + 3) = .ok (.dup, 1)) (d4 : decode cc (pc + 4) = .ok (.ldc_w is, 3)) (d6 : decode cc (pc + 7) = .ok (.invokespecial 104, 3)) (d9 : decode cc (pc + 10) = .ok (.athrow, 1))
    (hF : 5 < F) (hL : (st.map fun v => v.category).sum + 82 ≤ L) (hM : cells + 1 ≤ M ∧ slots + 6 ≤ N) (hm : cells + 1 ≤ mc ∧ slots + 6 ≤ ms) {px : cS → Prop} (hpx : px S) : cG p l e (cRm F M N L) s m args below meth c A D Y nL (vx_MQ below (fun _ _ _ _ => False) (cXB "java/lang/IllegalArgumentException" px D Y A) args s mc ms A) cells slots pc lv st S := by
  intro H locs ls hP hD hS hlv
  have hat := cXat_1 C
  obtain ⟨hx, hb, hml, hown, hts, hK, hlo, hr, hA, hE⟩ := C
  obtain ⟨sa, hsa⟩ := hE.2.2.2.2.2.2.1 _ hstr
  exact vx_throwSW (names := ["java/lang/RuntimeException", "java/lang/Exception"]) hx hb hl hown (by decide +kernel) (by decide +kernel) (hts _ hk) (hts _ hini) hsa hat (cXgd_1 ik) hE.2.2.2.2.1 hE.2.2.2.2.2.1 hS (hlv.1.trans hml.symm) d0 d3 d4 d6 d9 (fun x hx => (hne x hx).elim) hF hL hM.1 hM.2 hlo
    (fun t al hz hk => ⟨S, hpx, ⟨rfl, hP.kept (fun k q hq => hk _ (vx_lt hP hq)), va_K.moved al hK, hD⟩, Nat.le_trans hS.1 hz, fun q h1 h2 => (hk q (Nat.lt_of_lt_of_le h1 hS.1)).trans (hS.2.1 q h1 h2)⟩) hS.2.2 hm.1 hm.2
set_option maxRecDepth 100000 in
theorem cXat_2 (C : cC p s m args meth c cc nL ret A D Y tp dp own) : ∀ w ∈ vx_atS RX11 120 "java/lang/IllegalStateException" ["java/lang/RuntimeException", "java/lang/Exception"], w.before args s = true := by
  refine vx_hat (B := cXw "java/lang/IllegalStateException") (fun w h => C.2.2.2.2.1 w (cWs_cWx _ ?_)) ?_ ?_
  · first | exact List.mem_append_left _ (List.mem_append_right _ h) | exact List.mem_append_left _ h | exact List.mem_append_right _ h | exact List.mem_append_right _ (List.mem_append_left _ h) | exact List.mem_append_right _ (List.mem_append_right _ h)
  · have h : ((vx_atS RX11 120 "java/lang/IllegalStateException" ["java/lang/RuntimeException", "java/lang/Exception"]).filter (fun w => !goodWord w)).all (fun w => decide (w ∈ cXw "java/lang/IllegalStateException")) = true := by decide +kernel
    exact fun w hw => of_decide_eq_true (List.all_eq_true.mp h w hw)
  · have hE := C.2.2.2.2.2.2.2.2.2.2.2.2.2.2.2.2
    intro w hw
    rcases List.mem_cons.mp hw with rfl | hw
    · exact va_Nw.use rfl (hE.1 ("java/lang/IllegalStateException", "java/lang/IllegalStateException") (by decide))
    rcases List.mem_cons.mp hw with rfl | hw
    · exact va_Nw.use rfl (hE.2.1 _ (by decide))
    rcases List.mem_cons.mp hw with rfl | hw
    · exact va_Nw.use rfl (hE.2.1 _ (by decide))
    rcases List.mem_cons.mp hw with rfl | hw
    · exact va_Nw.use rfl (hE.2.1 _ (by decide))
    exact nomatch hw
set_option maxRecDepth 100000 in
theorem cXgd_2 : ∀ ik, ∀ w ∈ Cond.classLink RX11 ik "java/lang/IllegalStateException" :: Cond.initialized "java/lang/IllegalStateException" :: vx_atS RX11 120 "java/lang/IllegalStateException" ["java/lang/RuntimeException", "java/lang/Exception"], vx_ot w = true := by
  intro ik w hw
  rcases List.mem_cons.mp hw with rfl | hw
  · rfl
  rcases List.mem_cons.mp hw with rfl | hw
  · rfl
  have h : (vx_atS RX11 120 "java/lang/IllegalStateException" ["java/lang/RuntimeException", "java/lang/Exception"]).all vx_ot = true := by decide +kernel
  exact List.all_eq_true.mp h w hw
theorem cg_throw2 (C : cC p s m args meth c cc nL ret A D Y tp dp RX11) (hl : l.stackTraces = false) (hne : ∀ x ∈ c.exceptionTable.toList, False) {ik is mc ms F M N L : Nat} (text : String) (hk : Cond.classLink RX11 ik "java/lang/IllegalStateException" ∈ cWs) (hini : Cond.initialized "java/lang/IllegalStateException" ∈ cWs) (hstr : (is, text) ∈ cStr)
    (d0 : decode cc pc = .ok (.new ik, 3)) (d3 : decode cc (pc + 3) = .ok (.dup, 1)) (d4 : decode cc (pc + 4) = .ok (.ldc is, 2)) (d6 : decode cc (pc + 6) = .ok (.invokespecial 120, 3)) (d9 : decode cc (pc + 9) = .ok (.athrow, 1))
    (hF : 5 < F) (hL : (st.map fun v => v.category).sum + 82 ≤ L) (hM : cells + 1 ≤ M ∧ slots + 6 ≤ N) (hm : cells + 1 ≤ mc ∧ slots + 6 ≤ ms) {px : cS → Prop} (hpx : px S) : cG p l e (cRm F M N L) s m args below meth c A D Y nL (vx_MQ below (fun _ _ _ _ => False) (cXB "java/lang/IllegalStateException" px D Y A) args s mc ms A) cells slots pc lv st S := by
  intro H locs ls hP hD hS hlv
  have hat := cXat_2 C
  obtain ⟨hx, hb, hml, hown, hts, hK, hlo, hr, hA, hE⟩ := C
  obtain ⟨sa, hsa⟩ := hE.2.2.2.2.2.2.1 _ hstr
  exact vx_throwS (names := ["java/lang/RuntimeException", "java/lang/Exception"]) hx hb hl hown (by decide +kernel) (by decide +kernel) (hts _ hk) (hts _ hini) hsa hat (cXgd_2 ik) hE.2.2.2.2.1 hE.2.2.2.2.2.1 hS (hlv.1.trans hml.symm) d0 d3 d4 d6 d9 (fun x hx => (hne x hx).elim) hF hL hM.1 hM.2 hlo
    (fun t al hz hk => ⟨S, hpx, ⟨rfl, hP.kept (fun k q hq => hk _ (vx_lt hP hq)), va_K.moved al hK, hD⟩, Nat.le_trans hS.1 hz, fun q h1 h2 => (hk q (Nat.lt_of_lt_of_le h1 hS.1)).trans (hS.2.1 q h1 h2)⟩) hS.2.2 hm.1 hm.2
theorem cg_throw2W (C : cC p s m args meth c cc nL ret A D Y tp dp RX11) (hl : l.stackTraces = false) (hne : ∀ x ∈ c.exceptionTable.toList, False) {ik is mc ms F M N L : Nat} (text : String) (hk : Cond.classLink RX11 ik "java/lang/IllegalStateException" ∈ cWs) (hini : Cond.initialized "java/lang/IllegalStateException" ∈ cWs) (hstr : (is, text) ∈ cStr)
    (d0 : decode cc pc = .ok (.new ik, 3)) (d3 : decode cc (pc + 3) = .ok (.dup, 1)) (d4 : decode cc (pc + 4) = .ok (.ldc_w is, 3)) (d6 : decode cc (pc + 7) = .ok (.invokespecial 120, 3)) (d9 : decode cc (pc + 10) = .ok (.athrow, 1))
    (hF : 5 < F) (hL : (st.map fun v => v.category).sum + 82 ≤ L) (hM : cells + 1 ≤ M ∧ slots + 6 ≤ N) (hm : cells + 1 ≤ mc ∧ slots + 6 ≤ ms) {px : cS → Prop} (hpx : px S) : cG p l e (cRm F M N L) s m args below meth c A D Y nL (vx_MQ below (fun _ _ _ _ => False) (cXB "java/lang/IllegalStateException" px D Y A) args s mc ms A) cells slots pc lv st S := by
  intro H locs ls hP hD hS hlv
  have hat := cXat_2 C
  obtain ⟨hx, hb, hml, hown, hts, hK, hlo, hr, hA, hE⟩ := C
  obtain ⟨sa, hsa⟩ := hE.2.2.2.2.2.2.1 _ hstr
  exact vx_throwSW (names := ["java/lang/RuntimeException", "java/lang/Exception"]) hx hb hl hown (by decide +kernel) (by decide +kernel) (hts _ hk) (hts _ hini) hsa hat (cXgd_2 ik) hE.2.2.2.2.1 hE.2.2.2.2.2.1 hS (hlv.1.trans hml.symm) d0 d3 d4 d6 d9 (fun x hx => (hne x hx).elim) hF hL hM.1 hM.2 hlo
    (fun t al hz hk => ⟨S, hpx, ⟨rfl, hP.kept (fun k q hq => hk _ (vx_lt hP hq)), va_K.moved al hK, hD⟩, Nat.le_trans hS.1 hz, fun q h1 h2 => (hk q (Nat.lt_of_lt_of_le h1 hS.1)).trans (hS.2.1 q h1 h2)⟩) hS.2.2 hm.1 hm.2
set_option maxRecDepth 100000 in
theorem cXat_3 (C : cC p s m args meth c cc nL ret A D Y tp dp own) : ∀ w ∈ vx_atS RX11 273 "java/lang/IndexOutOfBoundsException" ["java/lang/RuntimeException", "java/lang/Exception"], w.before args s = true := by
  refine vx_hat (B := cXw "java/lang/IndexOutOfBoundsException") (fun w h => C.2.2.2.2.1 w (cWs_cWx _ ?_)) ?_ ?_
  · first | exact List.mem_append_right _ h | exact List.mem_append_left _ h | exact List.mem_append_right _ h | exact List.mem_append_right _ (List.mem_append_left _ h) | exact List.mem_append_right _ (List.mem_append_right _ h)
  · have h : ((vx_atS RX11 273 "java/lang/IndexOutOfBoundsException" ["java/lang/RuntimeException", "java/lang/Exception"]).filter (fun w => !goodWord w)).all (fun w => decide (w ∈ cXw "java/lang/IndexOutOfBoundsException")) = true := by decide +kernel
    exact fun w hw => of_decide_eq_true (List.all_eq_true.mp h w hw)
  · have hE := C.2.2.2.2.2.2.2.2.2.2.2.2.2.2.2.2
    intro w hw
    rcases List.mem_cons.mp hw with rfl | hw
    · exact va_Nw.use rfl (hE.1 ("java/lang/IndexOutOfBoundsException", "java/lang/IndexOutOfBoundsException") (by decide))
    rcases List.mem_cons.mp hw with rfl | hw
    · exact va_Nw.use rfl (hE.2.1 _ (by decide))
    rcases List.mem_cons.mp hw with rfl | hw
    · exact va_Nw.use rfl (hE.2.1 _ (by decide))
    rcases List.mem_cons.mp hw with rfl | hw
    · exact va_Nw.use rfl (hE.2.1 _ (by decide))
    exact nomatch hw
set_option maxRecDepth 100000 in
theorem cXgd_3 : ∀ ik, ∀ w ∈ Cond.classLink RX11 ik "java/lang/IndexOutOfBoundsException" :: Cond.initialized "java/lang/IndexOutOfBoundsException" :: vx_atS RX11 273 "java/lang/IndexOutOfBoundsException" ["java/lang/RuntimeException", "java/lang/Exception"], vx_ot w = true := by
  intro ik w hw
  rcases List.mem_cons.mp hw with rfl | hw
  · rfl
  rcases List.mem_cons.mp hw with rfl | hw
  · rfl
  have h : (vx_atS RX11 273 "java/lang/IndexOutOfBoundsException" ["java/lang/RuntimeException", "java/lang/Exception"]).all vx_ot = true := by decide +kernel
  exact List.all_eq_true.mp h w hw
theorem cg_throw3 (C : cC p s m args meth c cc nL ret A D Y tp dp RX11) (hl : l.stackTraces = false) (hne : ∀ x ∈ c.exceptionTable.toList, False) {ik is mc ms F M N L : Nat} (text : String) (hk : Cond.classLink RX11 ik "java/lang/IndexOutOfBoundsException" ∈ cWs) (hini : Cond.initialized "java/lang/IndexOutOfBoundsException" ∈ cWs) (hstr : (is, text) ∈ cStr)
    (d0 : decode cc pc = .ok (.new ik, 3)) (d3 : decode cc (pc + 3) = .ok (.dup, 1)) (d4 : decode cc (pc + 4) = .ok (.ldc is, 2)) (d6 : decode cc (pc + 6) = .ok (.invokespecial 273, 3)) (d9 : decode cc (pc + 9) = .ok (.athrow, 1))
    (hF : 5 < F) (hL : (st.map fun v => v.category).sum + 82 ≤ L) (hM : cells + 1 ≤ M ∧ slots + 6 ≤ N) (hm : cells + 1 ≤ mc ∧ slots + 6 ≤ ms) {px : cS → Prop} (hpx : px S) : cG p l e (cRm F M N L) s m args below meth c A D Y nL (vx_MQ below (fun _ _ _ _ => False) (cXB "java/lang/IndexOutOfBoundsException" px D Y A) args s mc ms A) cells slots pc lv st S := by
  intro H locs ls hP hD hS hlv
  have hat := cXat_3 C
  obtain ⟨hx, hb, hml, hown, hts, hK, hlo, hr, hA, hE⟩ := C
  obtain ⟨sa, hsa⟩ := hE.2.2.2.2.2.2.1 _ hstr
  exact vx_throwS (names := ["java/lang/RuntimeException", "java/lang/Exception"]) hx hb hl hown (by decide +kernel) (by decide +kernel) (hts _ hk) (hts _ hini) hsa hat (cXgd_3 ik) hE.2.2.2.2.1 hE.2.2.2.2.2.1 hS (hlv.1.trans hml.symm) d0 d3 d4 d6 d9 (fun x hx => (hne x hx).elim) hF hL hM.1 hM.2 hlo
    (fun t al hz hk => ⟨S, hpx, ⟨rfl, hP.kept (fun k q hq => hk _ (vx_lt hP hq)), va_K.moved al hK, hD⟩, Nat.le_trans hS.1 hz, fun q h1 h2 => (hk q (Nat.lt_of_lt_of_le h1 hS.1)).trans (hS.2.1 q h1 h2)⟩) hS.2.2 hm.1 hm.2
theorem cg_throw3W (C : cC p s m args meth c cc nL ret A D Y tp dp RX11) (hl : l.stackTraces = false) (hne : ∀ x ∈ c.exceptionTable.toList, False) {ik is mc ms F M N L : Nat} (text : String) (hk : Cond.classLink RX11 ik "java/lang/IndexOutOfBoundsException" ∈ cWs) (hini : Cond.initialized "java/lang/IndexOutOfBoundsException" ∈ cWs) (hstr : (is, text) ∈ cStr)
    (d0 : decode cc pc = .ok (.new ik, 3)) (d3 : decode cc (pc + 3) = .ok (.dup, 1)) (d4 : decode cc (pc + 4) = .ok (.ldc_w is, 3)) (d6 : decode cc (pc + 7) = .ok (.invokespecial 273, 3)) (d9 : decode cc (pc + 10) = .ok (.athrow, 1))
    (hF : 5 < F) (hL : (st.map fun v => v.category).sum + 82 ≤ L) (hM : cells + 1 ≤ M ∧ slots + 6 ≤ N) (hm : cells + 1 ≤ mc ∧ slots + 6 ≤ ms) {px : cS → Prop} (hpx : px S) : cG p l e (cRm F M N L) s m args below meth c A D Y nL (vx_MQ below (fun _ _ _ _ => False) (cXB "java/lang/IndexOutOfBoundsException" px D Y A) args s mc ms A) cells slots pc lv st S := by
  intro H locs ls hP hD hS hlv
  have hat := cXat_3 C
  obtain ⟨hx, hb, hml, hown, hts, hK, hlo, hr, hA, hE⟩ := C
  obtain ⟨sa, hsa⟩ := hE.2.2.2.2.2.2.1 _ hstr
  exact vx_throwSW (names := ["java/lang/RuntimeException", "java/lang/Exception"]) hx hb hl hown (by decide +kernel) (by decide +kernel) (hts _ hk) (hts _ hini) hsa hat (cXgd_3 ik) hE.2.2.2.2.1 hE.2.2.2.2.2.1 hS (hlv.1.trans hml.symm) d0 d3 d4 d6 d9 (fun x hx => (hne x hx).elim) hF hL hM.1 hM.2 hlo
    (fun t al hz hk => ⟨S, hpx, ⟨rfl, hP.kept (fun k q hq => hk _ (vx_lt hP hq)), va_K.moved al hK, hD⟩, Nat.le_trans hS.1 hz, fun q h1 h2 => (hk q (Nat.lt_of_lt_of_le h1 hS.1)).trans (hS.2.1 q h1 h2)⟩) hS.2.2 hm.1 hm.2
theorem c_throws {E : String} {px : cS → Prop} {A1 : Nat → Prop} {mc ms : Nat} {ls : Array Slot} {stk : List Value} {H : Heap} {locs : List Loc} {a : Array Value} (hr : vx_Run p l e R s m args below meth c H locs cells slots mc ms (F0 m pc ls stk) st (fun _ _ _ => False) (cXB E px D Y A1) A1) (hS : va_S A s.heap H locs) (hF : ∀ q, A1 q → A q)
    (kx : ∀ (u : cS) (ce : Cell) (q9 : Addr) (t : State) (H1 : Heap) (locs1 : List Loc), px u → t.heap = H1 → s.vm.Alike t.vm → cB D Y A1 u t → va_S A s.heap H1 locs1 → H1[q9]? = some ce → ce.vm = .none → s.vm.findClass E = some ce.cls → vx_W p l e R s m args below meth c H1 locs1 (cells + mc) (slots + ms) Q (F0 m pc ls st) q9) : W p l e R s m args below meth c H locs cells slots Q (F0 m pc ls stk) := by
  intro T hT X
  rcases hr T hT X with ⟨v, st₀, t, T', L, h0, X', hL, e1, e2, hf, st⟩ | ⟨q, st₀, t, T', L, E', ce, h0, X', hL, e1, e2, ⟨v, hp, ⟨rfl, hb⟩, hF'⟩, hce, hcv, hcl, st⟩
  · exact hf.elim
  · obtain ⟨k1, k2, k3⟩ := vx_keep h0 e1 hS (fun q _ h => hF q h) hF hL hF'
    obtain ⟨t2, a1, b1⟩ := kx v ce q t T'.heap (locs ++ L) hp e1.symm (by rw [← e2]; exact X'.warmed.alike) hb k3 (by rw [e1]; exact hce) hcv hcl T' rfl X'
    exact ⟨t2, st.trans a1, b1⟩
theorem cg_callx (C : cC p s m args meth c cc nL ret A D Y tp dp own) (hne : ∀ x ∈ c.exceptionTable.toList, False) {E : String} {px : cS → Prop} {px' : cS → Prop} {y : MethodName} {cc' : ByteArray} {nL' idx n fr mc ms lo F M N L MC MS a k NN : Nat} {T : u_T} {ret' : Option FieldType} {As : List Value} {stk : List Value} (hM : cMetX E px l y cc' nL' ret' fr mc ms lo (.ref a :: As) S dp) (hc : cCal false own idx y cc' nL' ret' n) (ha : a ∈ cL S) (hK' : cK S a = k) (hk : k < 13) (hcl : vwCl[kC k]? = some (y.cls, T, NN)) (hn : As.length = n) (hR : fr + 1 ≤ F ∧ 8 + (nL' + 11) + lo ≤ L) (hm : cells + mc ≤ M ∧ slots + ms ≤ N) (hst : stk = As.reverse ++ .ref a :: st) (hsz : (st.map fun v => v.category).sum ≤ 8) (d : decode cc pc = .ok (.invokevirtual idx, 3)) (hm2 : cells + mc ≤ MC ∧ slots + ms ≤ MS) (hpx : ∀ u, px u → px' u) : cG p l e (cRm F M N L) s m args below meth c A D Y nL (vx_MQ below (fun _ _ _ _ => False) (cXB E px' D Y A) args s MC MS A) cells slots pc lv stk S := by
  intro H locs ls hP hD hS hlv
  have hp := c_pre (av := .ref a :: As) C hP hD hS
  obtain ⟨hx, hb, hml, hown, hts, hK, hlo, hr, hA, hE⟩ := C
  have hF := c_free hD hS hA
  obtain ⟨h1, h2, h3, h4, h5, h6⟩ := hc
  have hb1 : CallB (cRm F M N L) s args own idx y cc' nL' ret' (Cond.code y cc' nL' ret' :: cWs) (cRm fr mc ms lo) mc ms n := callB_of n hts (ccal_good h5) rfl rfl rfl (hts _ h3) (hts _ h2) ⟨h1.1, h1.2, h6⟩ hR
  refine c_throws (a := args) (vx_runV (As := As) (rest := st) (C := y.cls) ⟨hx, hb, hml, hown, hts⟩ (hM D Y tp H.size) ⟨hb1, hts _ h4.1, hts _ h4.2⟩ ⟨hp.1, c_recv hK hP ha hK' hk hcl, hp.2⟩ rfl hn hlv.1 hst (lv_room hsz) d hm) hS hF (fun u ce q9 t H1 locs1 hpu ht hvm hB hS1 h7 h8 h9 => ?_)
  refine vx_out (fun x hx => (hne x hx).elim) hlo h7 h8 h9 (fun t' ht' al => ⟨u, hpx u hpu, ⟨rfl, by rw [ht', ← ht]; exact hB.1, va_K.moved al hK, hB.2.2.weaken (fun k q _ h => hF q.1 h)⟩, ?_⟩) hS1.2.2 hm2.1 hm2.2
  exact hS1.F ht'
/-- .. caught here, by the row x -/
theorem cg_callx_catch (C : cC p s m args meth c cc nL ret A D Y tp dp own) {hh : List (Nat × Nat × Nat × Nat)} (htab : c.exceptionTable.toList = tableOf hh) {E name : String} {px : cS → Prop} {y : MethodName} {cc' : ByteArray} {nL' idx n fr mc ms lo F M N L a k NN : Nat} {T : u_T} {ret' : Option FieldType} {As : List Value} {stk : List Value} (hM : cMetX E px l y cc' nL' ret' fr mc ms lo (.ref a :: As) S dp) (hc : cCal false own idx y cc' nL' ret' n) (ha : a ∈ cL S) (hK' : cK S a = k) (hk : k < 13) (hcl : vwCl[kC k]? = some (y.cls, T, NN)) (hn : As.length = n) (hR : fr + 1 ≤ F ∧ 8 + (nL' + 11) + lo ≤ L) (hm : cells + mc ≤ M ∧ slots + ms ≤ N) (hst : stk = As.reverse ++ .ref a :: st) (hsz : (st.map fun v => v.category).sum ≤ 8) (d : decode cc pc = .ok (.invokevirtual idx, 3))
    (pre : List ExceptionTableEntry) (x : ExceptionTableEntry) (suf : List ExceptionTableEntry) (hsp : tableOf hh = pre ++ x :: suf) (hpre : ∀ z ∈ pre, z.catchType ≠ 0 ∧ ∃ nm : String, Cond.classLink own z.catchType nm ∈ cWs ∧ (E, nm) ∈ cXN) (hcov : covers x pc = true) (h0 : x.catchType ≠ 0) (hlk : Cond.classLink own x.catchType name ∈ cWs) (hca : (E, name) ∈ cXC) (t : Nat) (ht : x.handlerPc = t)
    (kk : ∀ q u, px u → cG p l e (cRm F M N L) s m args below meth c A D Y nL Q (cells + mc) (slots + ms) t lv [.ref q] u) : cG p l e (cRm F M N L) s m args below meth c A D Y nL Q cells slots pc lv stk S := by
  intro H locs ls hP hD hS hlv
  have hp := c_pre (av := .ref a :: As) C hP hD hS
  obtain ⟨hx, hb, hml, hown, hts, hK, hlo, hr, hA, hE⟩ := C
  have hF := c_free hD hS hA
  obtain ⟨h1, h2, h3, h4, h5, h6⟩ := hc
  have hb1 : CallB (cRm F M N L) s args own idx y cc' nL' ret' (Cond.code y cc' nL' ret' :: cWs) (cRm fr mc ms lo) mc ms n := callB_of n hts (ccal_good h5) rfl rfl rfl (hts _ h3) (hts _ h2) ⟨h1.1, h1.2, h6⟩ hR
  refine c_throws (a := args) (vx_runV (As := As) (rest := st) (C := y.cls) ⟨hx, hb, hml, hown, hts⟩ (hM D Y tp H.size) ⟨hb1, hts _ h4.1, hts _ h4.2⟩ ⟨hp.1, c_recv hK hP ha hK' hk hcl, hp.2⟩ rfl hn hlv.1 hst (lv_room hsz) d hm) hS hF (fun u ce q9 t H1 locs1 hpu htt hvm hB hS1 h7 h8 h9 => ?_)
  refine vx_catch hown pre x suf (htab.trans hsp) (fun z hz => ?_) hcov h0 (hts _ hlk) (va_Nw.use rfl (hE.2.2.2.2.2.2.2.1 _ hca)) h7 h8 h9 ?_
  · obtain ⟨h0, nm, h1, h2⟩ := hpre z hz
    exact Or.inr ⟨h0, nm, hts _ h1, hE.2.2.2.2.2.2.2.2.2.1 _ h2⟩
  · subst ht
    obtain ⟨hB1, hB2, hB3⟩ := hB
    rw [htt] at hB1
    exact kk q9 u hpu H1 locs1 ls hB1 (hB3.weaken (fun k q _ h => hF q.1 h)) hS1 hlv
theorem cg_callsx (C : cC p s m args meth c cc nL ret A D Y tp dp own) (hne : ∀ x ∈ c.exceptionTable.toList, False) {E : String} {px : cS → Prop} {px' : cS → Prop} {y : MethodName} {cc' : ByteArray} {nL' idx n fr mc ms lo F M N L MC MS : Nat} {ret' : Option FieldType} {As : List Value} {stk : List Value} (hM : cMetX E px l y cc' nL' ret' fr mc ms lo As S dp) (hc : cCal true own idx y cc' nL' ret' n) (hn : As.length = n) (hR : fr + 1 ≤ F ∧ 8 + (nL' + 11) + lo ≤ L) (hm : cells + mc ≤ M ∧ slots + ms ≤ N) (hst : stk = As.reverse ++ st) (hsz : (st.map fun v => v.category).sum ≤ 8) (d : decode cc pc = .ok (.invokestatic idx, 3)) (hm2 : cells + mc ≤ MC ∧ slots + ms ≤ MS) (hpx : ∀ u, px u → px' u) : cG p l e (cRm F M N L) s m args below meth c A D Y nL (vx_MQ below (fun _ _ _ _ => False) (cXB E px' D Y A) args s MC MS A) cells slots pc lv stk S := by
  intro H locs ls hP hD hS hlv
  have hp := c_pre (av := As) C hP hD hS
  obtain ⟨hx, hb, hml, hown, hts, hK, hlo, hr, hA, hE⟩ := C
  have hF := c_free hD hS hA
  obtain ⟨h1, h2, h3, h4, h5, h6⟩ := hc
  have hb1 : CallB (cRm F M N L) s args own idx y cc' nL' ret' (Cond.code y cc' nL' ret' :: cWs) (cRm fr mc ms lo) mc ms n := callB_of n hts (ccal_good h5) rfl rfl rfl (hts _ h3) (hts _ h2) ⟨h1.1, h1.2, h6⟩ hR
  refine c_throws (a := args) (vx_runS (As := As) (rest := st) ⟨hx, hb, hml, hown, hts⟩ (hM D Y tp H.size) ⟨hb1, hts _ h4⟩ hp rfl hn hlv.1 hst (lv_room hsz) d hm) hS hF (fun u ce q9 t H1 locs1 hpu ht hvm hB hS1 h7 h8 h9 => ?_)
  refine vx_out (fun x hx => (hne x hx).elim) hlo h7 h8 h9 (fun t' ht' al => ⟨u, hpx u hpu, ⟨rfl, by rw [ht', ← ht]; exact hB.1, va_K.moved al hK, hB.2.2.weaken (fun k q _ h => hF q.1 h)⟩, ?_⟩) hS1.2.2 hm2.1 hm2.2
  exact hS1.F ht'
/-- .. caught here, by the row x -/
theorem cg_callsx_catch (C : cC p s m args meth c cc nL ret A D Y tp dp own) {hh : List (Nat × Nat × Nat × Nat)} (htab : c.exceptionTable.toList = tableOf hh) {E name : String} {px : cS → Prop} {y : MethodName} {cc' : ByteArray} {nL' idx n fr mc ms lo F M N L : Nat} {ret' : Option FieldType} {As : List Value} {stk : List Value} (hM : cMetX E px l y cc' nL' ret' fr mc ms lo As S dp) (hc : cCal true own idx y cc' nL' ret' n) (hn : As.length = n) (hR : fr + 1 ≤ F ∧ 8 + (nL' + 11) + lo ≤ L) (hm : cells + mc ≤ M ∧ slots + ms ≤ N) (hst : stk = As.reverse ++ st) (hsz : (st.map fun v => v.category).sum ≤ 8) (d : decode cc pc = .ok (.invokestatic idx, 3))
    (pre : List ExceptionTableEntry) (x : ExceptionTableEntry) (suf : List ExceptionTableEntry) (hsp : tableOf hh = pre ++ x :: suf) (hpre : ∀ z ∈ pre, z.catchType ≠ 0 ∧ ∃ nm : String, Cond.classLink own z.catchType nm ∈ cWs ∧ (E, nm) ∈ cXN) (hcov : covers x pc = true) (h0 : x.catchType ≠ 0) (hlk : Cond.classLink own x.catchType name ∈ cWs) (hca : (E, name) ∈ cXC) (t : Nat) (ht : x.handlerPc = t)
    (kk : ∀ q u, px u → cG p l e (cRm F M N L) s m args below meth c A D Y nL Q (cells + mc) (slots + ms) t lv [.ref q] u) : cG p l e (cRm F M N L) s m args below meth c A D Y nL Q cells slots pc lv stk S := by
  intro H locs ls hP hD hS hlv
  have hp := c_pre (av := As) C hP hD hS
  obtain ⟨hx, hb, hml, hown, hts, hK, hlo, hr, hA, hE⟩ := C
  have hF := c_free hD hS hA
  obtain ⟨h1, h2, h3, h4, h5, h6⟩ := hc
  have hb1 : CallB (cRm F M N L) s args own idx y cc' nL' ret' (Cond.code y cc' nL' ret' :: cWs) (cRm fr mc ms lo) mc ms n := callB_of n hts (ccal_good h5) rfl rfl rfl (hts _ h3) (hts _ h2) ⟨h1.1, h1.2, h6⟩ hR
  refine c_throws (a := args) (vx_runS (As := As) (rest := st) ⟨hx, hb, hml, hown, hts⟩ (hM D Y tp H.size) ⟨hb1, hts _ h4⟩ hp rfl hn hlv.1 hst (lv_room hsz) d hm) hS hF (fun u ce q9 t H1 locs1 hpu htt hvm hB hS1 h7 h8 h9 => ?_)
  refine vx_catch hown pre x suf (htab.trans hsp) (fun z hz => ?_) hcov h0 (hts _ hlk) (va_Nw.use rfl (hE.2.2.2.2.2.2.2.1 _ hca)) h7 h8 h9 ?_
  · obtain ⟨h0, nm, h1, h2⟩ := hpre z hz
    exact Or.inr ⟨h0, nm, hts _ h1, hE.2.2.2.2.2.2.2.2.2.1 _ h2⟩
  · subst ht
    obtain ⟨hB1, hB2, hB3⟩ := hB
    rw [htt] at hB1
    exact kk q9 u hpu H1 locs1 ls hB1 (hB3.weaken (fun k q _ h => hF q.1 h)) hS1 hlv
end CGX
