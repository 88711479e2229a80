/-! isHeld: a method with a table over the script -/
def cMetSW (Qk : (D : va_G) → (Y : cY) → (A : Nat → Prop) → Array Value → State → Outcome → State → Prop) (l : Launch) (y : MethodName) (cc : ByteArray) (nL : Nat) (ret : Option FieldType) (hh : List (Nat × Nat × Nat × Nat)) (fr mc ms lo : Nat) (av : List Value) (S : cS) (dp sc L : Nat) (xs : Nat → Int32) : Prop := ∀ (D : va_G) (Y : cY) (tp sz : Nat), Met l y (.codeWith y cc nL ret hh :: cWs) (cRm fr mc ms lo) (va_Pc av (cPrS D Y tp dp S sz sc L xs)) (Qk D Y (va_A (cWd Y S) sz)) mc ms (va_A (cWd Y S) sz)
section LSW
variable {p : Program} {l : Launch} {e : Env} {R : Room} {s : State} {m : MethodId} {args : Array Value} {below : List Frame} {meth : Method} {c : Code} {cc : ByteArray} {nL : Nat} {ret : Option FieldType} {A : Nat → Prop} {D : va_G} {Y : cY} {tp dp : Nat} {own : String} {Q : State → Prop} {cells slots : Nat}
variable {pc : Nat} {lv lv' : List (Nat × Value)} {st st' : List Value} {S : cS}
theorem cg_bodySW {y : MethodName} {hh : List (Nat × Nat × Nat × Nat)} {fr mc ms lo sz sc L : Nat} {xs : Nat → Int32} {av : List Value} {Qc : Array Value → State → Outcome → State → Prop} (hy : plainName y.cls = true) (hlen : (lg_sl av).length ≤ nL)
    (body : ∀ (p : Program) (e : Env) (s : State) (m : MethodId) (args : Array Value) (below : List Frame) (meth : Method) (c : Code), cC p s m args meth c cc nL ret (va_A (cWd Y S) sz) D Y tp dp y.cls → va_X sc L xs s s.heap → sc < s.heap.size → ¬ va_A (cWd Y S) sz sc → cG p l e (cRm fr mc ms lo) s m args below meth c (va_A (cWd Y S) sz) D Y nL (MQ below Qc args s mc ms (va_A (cWd Y S) sz)) 0 0 0 (lv_args 0 av) [] S) : Met l y (.codeWith y cc nL ret hh :: cWs) (cRm fr mc ms lo) (va_Pc av (cPrS D Y tp dp S sz sc L xs)) Qc mc ms (va_A (cWd Y S) sz) := by
  refine va_MetW (cc := cc) (maxL := nL) (ret := ret) (hh := hh) hy rfl ?_
  intro p e s m args below meth c s₁ B hml hv
  obtain ⟨rfl, ⟨hsz, hP, hK, hD0, hE⟩, hX, hbl, hbA⟩ := hv
  have hts := atoms_spec (ws := Cond.codeWith y cc nL ret hh :: cWs) B.pre
  have hown : s.vm.findClass y.cls = some m.cls := findClass_of_methodNamed B.named
  have hl := lv_entry av (n := nL) hlen
  rw [lg_entry_eq]
  subst hsz
  exact body p e s m _ below meth c ⟨B.exec, B.bytes, hml, hown, fun w h => hts w (List.mem_cons_of_mem _ h), hK, B.notSynchronized, B.returns, fun q h => Or.inr h, hE⟩ hX hbl hbA s.heap [] _ hP hD0.self va_S.rf hl
theorem dL_isHeld_1 : decode cL_isHeld 1 = .ok (.invokestatic 316, 3) := by decide +kernel
theorem dL_isHeld_4 : decode cL_isHeld 4 = .ok (.ireturn, 1) := by decide +kernel
set_option maxRecDepth 20000 in
theorem t_isHeld (l : Launch) {sc L : Nat} {xs : Nat → Int32} (hL : L ≤ 260) (hlt : l.stackTraces = false) (S : cS) (dp : Nat) : cMetSW (cQi (fun r _ => r = bI true)) l yL_isHeld cL_isHeld 2 (some .boolean) [(0, 4, 5, 320), (0, 4, 8, 322), (0, 4, 11, 73)] 15 500000 5000000 400 [.ref sc] S dp sc L xs := by
  intro D Y tp sz
  refine cg_bodySW (by decide +kernel) (Nat.le_of_ble_eq_true rfl) ?_
  intro p e s m args below meth c C hX hbl hbA
  generalize va_A (cWd Y S) sz = A at C hbA ⊢
  have C : cC p s m args meth c cL_isHeld 2 (some .boolean) A D Y tp dp RL := C
  refine cg_lv (lv' := [(0, .ref sc)]) rfl ?_
  refine cg_aload_n C (i := 0) rfl 0 rfl dL_isHeld_0 ?_
  refine cg_callSi C hX hbl hbA (ts_L_holds l hL hlt 500000 5000000 S dp (q_holds (Q := fun r _ => r = bI true) (fun _ => rfl))) cc_L_316 rfl ⟨by decide, by decide⟩ ⟨by decide, by decide⟩ rfl (Nat.le_of_ble_eq_true rfl) dL_isHeld_1 (fun r S' h => ?_)
  rw [h]
  exact cg_zret C (narrow_b1 : narrow .boolean (.int (bI true)) = .int (bI true)) (post := fun r _ => r = bI true) rfl dL_isHeld_4 (by decide) (by decide)
end LSW
