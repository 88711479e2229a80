/-! Arrays.copyOf of objects -/
theorem dJ7_copyOf_1904c_0 : decode cJ7_copyOf_1904c 0 = .ok (.aload_n 0, 1) := by decide +kernel
theorem dJ7_copyOf_1904c_1 : decode cJ7_copyOf_1904c 1 = .ok (.iload_n 1, 1) := by decide +kernel
theorem dJ7_copyOf_1904c_2 : decode cJ7_copyOf_1904c 2 = .ok (.aload_n 0, 1) := by decide +kernel
theorem dJ7_copyOf_1904c_3 : decode cJ7_copyOf_1904c 3 = .ok (.invokevirtual 86, 3) := by decide +kernel
theorem dJ7_copyOf_1904c_6 : decode cJ7_copyOf_1904c 6 = .ok (.invokestatic 300, 3) := by decide +kernel
theorem dJ7_copyOf_1904c_9 : decode cJ7_copyOf_1904c 9 = .ok (.areturn, 1) := by decide +kernel
theorem dJ7_copyOf_6403c_0 : decode cJ7_copyOf_6403c 0 = .ok (.aload_n 2, 1) := by decide +kernel
theorem dJ7_copyOf_6403c_1 : decode cJ7_copyOf_6403c 1 = .ok (.ldc 110, 2) := by decide +kernel
theorem dJ7_copyOf_6403c_3 : decode cJ7_copyOf_6403c 3 = .ok (.if_acmp .ne 10, 3) := by decide +kernel
theorem dJ7_copyOf_6403c_6 : decode cJ7_copyOf_6403c 6 = .ok (.iload_n 1, 1) := by decide +kernel
theorem dJ7_copyOf_6403c_7 : decode cJ7_copyOf_6403c 7 = .ok (.anewarray 2, 3) := by decide +kernel
theorem dJ7_copyOf_6403c_10 : decode cJ7_copyOf_6403c 10 = .ok (.goto 14, 3) := by decide +kernel
theorem dJ7_copyOf_6403c_13 : decode cJ7_copyOf_6403c 13 = .ok (.aload_n 2, 1) := by decide +kernel
theorem dJ7_copyOf_6403c_14 : decode cJ7_copyOf_6403c 14 = .ok (.invokevirtual 90, 3) := by decide +kernel
theorem dJ7_copyOf_6403c_17 : decode cJ7_copyOf_6403c 17 = .ok (.iload_n 1, 1) := by decide +kernel
theorem dJ7_copyOf_6403c_18 : decode cJ7_copyOf_6403c 18 = .ok (.invokestatic 95, 3) := by decide +kernel
theorem dJ7_copyOf_6403c_21 : decode cJ7_copyOf_6403c 21 = .ok (.checkcast 110, 3) := by decide +kernel
theorem dJ7_copyOf_6403c_24 : decode cJ7_copyOf_6403c 24 = .ok (.astore_n 3, 1) := by decide +kernel
theorem dJ7_copyOf_6403c_25 : decode cJ7_copyOf_6403c 25 = .ok (.aload_n 0, 1) := by decide +kernel
theorem dJ7_copyOf_6403c_26 : decode cJ7_copyOf_6403c 26 = .ok (.iconst 0, 1) := by decide +kernel
theorem dJ7_copyOf_6403c_27 : decode cJ7_copyOf_6403c 27 = .ok (.aload_n 3, 1) := by decide +kernel
theorem dJ7_copyOf_6403c_28 : decode cJ7_copyOf_6403c 28 = .ok (.iconst 0, 1) := by decide +kernel
theorem dJ7_copyOf_6403c_29 : decode cJ7_copyOf_6403c 29 = .ok (.aload_n 0, 1) := by decide +kernel
theorem dJ7_copyOf_6403c_30 : decode cJ7_copyOf_6403c 30 = .ok (.arraylength, 1) := by decide +kernel
theorem dJ7_copyOf_6403c_31 : decode cJ7_copyOf_6403c 31 = .ok (.iload_n 1, 1) := by decide +kernel
theorem dJ7_copyOf_6403c_32 : decode cJ7_copyOf_6403c 32 = .ok (.invokestatic 304, 3) := by decide +kernel
theorem dJ7_copyOf_6403c_35 : decode cJ7_copyOf_6403c 35 = .ok (.invokestatic 150, 3) := by decide +kernel
theorem dJ7_copyOf_6403c_38 : decode cJ7_copyOf_6403c 38 = .ok (.aload_n 3, 1) := by decide +kernel
theorem dJ7_copyOf_6403c_39 : decode cJ7_copyOf_6403c 39 = .ok (.areturn, 1) := by decide +kernel
abbrev cPreM (mi : Nat) (D : va_G) (Y : cY) (tp dp : Nat) (S : cS) (sz : Nat) (U : State) : Prop := cPre D Y tp dp S sz U ∧ va_Mi "[Ljava/lang/Object;" mi U
section KH
variable {p : Program} {l : Launch} {e : Env} {R : Room} {s : State} {m : MethodId} {args : Array Value} {below : List Frame} {meth : Method} {c : Code} {cc : ByteArray} {nL : Nat} {ret : Option FieldType} {A : Nat → Prop} {D : va_G} {Y : cY} {tp dp : Nat} {own : String} {Q : State → Prop} {cells slots : Nat}
variable {pc : Nat} {lv lv' : List (Nat × Value)} {st st' : List Value} {S : cS}
theorem cg_bodyM {y : MethodName} {fr mc ms lo sz mi : Nat} {av : List Value} {Qc : Array Value → State → Outcome → State → Prop} (hy : plainName y.cls = true) (hlen : (lg_sl av).length ≤ nL)
    (body : ∀ (p : Program) (e : Env) (s : State) (m : MethodId) (args : Array Value) (below : List Frame) (meth : Method) (c : Code), cC p s m args meth c cc nL ret (va_A (cWd Y S) sz) D Y tp dp y.cls → va_Mi "[Ljava/lang/Object;" mi s → cG p l e (cRm fr mc ms lo) s m args below meth c (va_A (cWd Y S) sz) D Y nL (MQ below Qc args s mc ms (va_A (cWd Y S) sz)) 0 0 0 (lv_args 0 av) [] S) : Met l y (.code y cc nL ret :: cWs) (cRm fr mc ms lo) (va_Pc av (cPreM mi D Y tp dp S sz)) Qc mc ms (va_A (cWd Y S) sz) := by
  refine Met.ofW (cc := cc) (maxL := nL) (ret := ret) hy rfl ?_
  intro p e s m args below meth c s₁ B hml hv
  obtain ⟨rfl, ⟨hsz, hP, hK, hD0, hE⟩, hmi⟩ := hv
  have hts := atoms_spec (ws := Cond.code y cc nL ret :: cWs) B.pre
  have hown : s.vm.findClass y.cls = some m.cls := findClass_of_methodNamed B.named
  have hl := lv_entry av (n := nL) hlen
  rw [lg_entry_eq]
  subst hsz
  exact body p e s m _ below meth c ⟨B.exec, B.bytes, hml, hown, fun w h => hts w (List.mem_cons_of_mem _ h), hK, B.notSynchronized, B.returns, fun q h => Or.inr h, hE⟩ hmi s.heap [] _ hP hD0.self va_S.rf hl
theorem c_preM {mi : Nat} {H : Heap} {locs : List Loc} {av : List Value} (C : cC p s m args meth c cc nL ret A D Y tp dp own) (hmi : va_Mi "[Ljava/lang/Object;" mi s) (hP : va_P D vwCl (cWd Y S) H) (hD : va_D A (cWd Y S)) (hS : va_S A s.heap H locs) : FrameBlind (va_Pc av (cPreM mi D Y tp dp S H.size)) ∧ ∀ U : State, U.heap = H → s.WarmedH U.vm → va_Pc av (cPreM mi D Y tp dp S H.size) av.toArray U := by
  obtain ⟨hx, hb, hml, hown, hts, hK, hlo, hr, hA, hE⟩ := C
  refine ⟨fun a' U g' mk q => ?_, fun U hU hW => ?_⟩
  · obtain ⟨q0, ⟨q1, qP, qK, qD, qE⟩, qM⟩ := q
    exact ⟨q0, ⟨q1, qP, va_K.moved (u := U) (U := U.calling g' mk a') (Vm.Alike.refl U.vm) qK, qD, qE.same a' g' mk⟩, va_Mi.moved (u := U) (U := U.calling g' mk a') (Vm.Alike.refl U.vm) qM⟩
  · exact ⟨rfl, ⟨by rw [hU], by rw [hU]; exact hP, va_K.moved hW.alike hK, hD.weaken (fun _ _ _ _ => trivial), by rw [hU]; exact hE.go hW hS (c_free hD hS hA)⟩, va_Mi.moved hW.alike hmi⟩
theorem cg_callsrM (C : cC p s m args meth c cc nL ret A D Y tp dp own) {mi : Nat} (hmi : va_Mi "[Ljava/lang/Object;" mi s) {y : MethodName} {cc' : ByteArray} {nL' idx n fr mc ms lo F M N L : Nat} {ret' : Option FieldType} {As : List Value} {stk : List Value} {post : Nat → cS → Prop} (hM : ∀ (D : va_G) (Y : cY) (tp sz : Nat), Met l y (.code y cc' nL' ret' :: cWs) (cRm fr mc ms lo) (va_Pc As (cPreM mi D Y tp dp S sz)) (cQr post D Y (va_A (cWd Y S) sz)) mc ms (va_A (cWd Y S) sz)) (hc : cCal true own idx y cc' nL' ret' n) (hn : As.length = n) (hR : fr + 1 ≤ F ∧ 8 + (nL' + 11) + lo ≤ L) (hm : cells + mc ≤ M ∧ slots + ms ≤ N) (hst : stk = As.reverse ++ st) (hsz : (st.map fun v => v.category).sum ≤ 8) (d : decode cc pc = .ok (.invokestatic idx, 3)) (kk : ∀ (r : Nat) (S' : cS), post r S' → cG p l e (cRm F M N L) s m args below meth c A D Y nL Q (cells + mc) (slots + ms) (pc + 3) lv (.ref r :: st) S') : cG p l e (cRm F M N L) s m args below meth c A D Y nL Q cells slots pc lv stk S := by
  intro H locs ls hP hD hS hlv
  have hp := c_preM (av := As) C hmi hP hD hS
  obtain ⟨hx, hb, hml, hown, hts, hK, hlo, hr, hA, hE⟩ := C
  have hF := c_free hD hS hA
  obtain ⟨h1, h2, h3, h4, h5, h6⟩ := hc
  have hb1 : CallB (cRm F M N L) s args own idx y cc' nL' ret' (Cond.code y cc' nL' ret' :: cWs) (cRm fr mc ms lo) mc ms n := callB_of n hts (ccal_good h5) rfl rfl rfl (hts _ h3) (hts _ h2) ⟨h1.1, h1.2, h6⟩ hR
  refine va_callr (va_runS (As := As) (rest := st) ⟨hx, hb, hml, hown, hts⟩ (hM D Y tp H.size) ⟨hb1, hts _ h4⟩ hp rfl hn hlv.1 hst (lv_room hsz) d hm) hS (fun q _ h => hF q h) hF (fun u r t H1 locs1 ht hvm hw hB hz1 hk1 hS1 => ?_)
  obtain ⟨hw, hP1, hK1, hD1⟩ := hB
  rw [ht] at hP1
  exact kk r u hw H1 locs1 ls hP1 (hD1.weaken (fun k q _ h => hF q.1 h)) hS1 hlv
theorem cg_ldcM (C : cC p s m args meth c cc nL ret A D Y tp dp own) {mi idx : Nat} (hmi : va_Mi "[Ljava/lang/Object;" mi s) (hl : Cond.classLink own idx "[Ljava/lang/Object;" ∈ cWs) (d : decode cc pc = .ok (.ldc idx, 2)) (kk : cG p l e R s m args below meth c A D Y nL Q cells slots (pc + 2) lv (.ref mi :: st) S) : cG p l e R s m args below meth c A D Y nL Q cells slots pc lv st S := by
  intro H locs ls hP hD hS hlv
  obtain ⟨hx, hb, hml, hown, hts, hK, hlo, hr, hA, hE⟩ := C
  exact va_ldcM hx hb hown (hts _ hl) hmi d (kk H locs ls hP hD hS hlv)
theorem gc_n : (Cond.selects "[Ljava/lang/Object;" ⟨"java/lang/Object", "getClass", "()Ljava/lang/Class;"⟩ ⟨"java/lang/Object", "getClass", "()Ljava/lang/Class;"⟩ ∈ cWs ∧ Cond.instanceMethod ⟨"java/lang/Object", "getClass", "()Ljava/lang/Class;"⟩ ∈ cWs) ∧ Cond.native ⟨"java/lang/Object", "getClass", "()Ljava/lang/Class;"⟩ ∈ cWs := ⟨⟨cWs_i2 91 rfl, cWs_i2 92 rfl⟩, cWs_i2 93 rfl⟩
theorem cg_getC (C : cC p s m args meth c cc nL ret A D Y tp dp own) {mi idx a : Nat} (hmi : va_Mi "[Ljava/lang/Object;" mi s) (hl : Cond.methodLink own idx ⟨"java/lang/Object", "getClass", "()Ljava/lang/Class;"⟩ ∈ cWs) (ha : a ∈ cL S) (hK' : cK S a = 17) (hF : 1 ≤ R.frames) (hL : (st.map fun v => v.category).sum + 14 ≤ R.locals) (d : decode cc pc = .ok (.invokevirtual idx, 3)) (kk : cG p l e R s m args below meth c A D Y nL Q cells slots (pc + 3) lv (.ref mi :: st) S) : cG p l e R s m args below meth c A D Y nL Q cells slots pc lv (.ref a :: st) S := by
  intro H locs ls hP hD hS hlv
  obtain ⟨hx, hb, hml, hown, hts, hK, hlo, hr, hA, hE⟩ := C
  obtain ⟨q, hq⟩ := cWd_at (Y := Y) ha
  rw [cE_O hK'] at hq
  have hd : va_Dc s := hE.2.2.2.2.2.2.2.2.1 _ (by decide)
  have h1 := (hK.2 4 (Y.2.2.2.2.1, .object "java/lang/Object") rfl).2
  exact va_getC hx hb (hml.trans hlv.1.symm) hown (hts _ hl) hd.use (hts _ gc_n.1.1) (hts _ gc_n.1.2) (hts _ gc_n.2) hmi ⟨_, hP q _ hq, rfl, va_nmO h1 rfl⟩ hF hL d (kk H locs ls hP hD hS hlv)
end KH
def k_J7_copyOf_1904c (Q : Nat → cS → Prop) (dp : Nat) (mc ms : Nat) (x0 : Nat) (x1 : Int32) (S : cS) : Prop :=
∃ n : Nat, x1 = nI n ∧ n < 2 ^ 20 ∧ 0 + 1 ≤ mc ∧ 0 + n ≤ ms ∧ cA S x0 17 ∧ ∀ q : Nat, q ∉ cL S → q ≠ dp → ∀ S1 : cS, S1 = cNewA S q 17 n → cA S1 x0 17 ∧ ∀ z : Int32, z = (if x1 < nI (cn S1 x0) then x1 else nI (cn S1 x0)) → cCp S1 17 x0 (nI 0) q (nI 0) z ∧ ∀ S2 : cS, S2 = cCpyO S1 x0 (nI 0).toNatClampNeg q (nI 0).toNatClampNeg z.toNatClampNeg → Q q S2
theorem t_J7_copyOf_6403c (l : Launch) (mc ms : Nat) (x0 mi : Nat) (x1 : Int32) (S : cS) (dp : Nat) {P : Nat → cS → Prop} (h : k_J7_copyOf_1904c P dp mc ms x0 x1 S) : ∀ (D : va_G) (Y : cY) (tp sz : Nat), Met l yJ7_copyOf_6403c (.code yJ7_copyOf_6403c cJ7_copyOf_6403c 4 (some (.array (.object "java/lang/Object"))) :: cWs) (cRm 1 mc ms 30) (va_Pc [.ref x0, .int x1, .ref mi] (cPreM mi D Y tp dp S sz)) (cQr P D Y (va_A (cWd Y S) sz)) mc ms (va_A (cWd Y S) sz) := by
  intro D Y tp sz
  refine cg_bodyM (by decide +kernel) (Nat.le_of_ble_eq_true rfl) ?_
  intro p e s m args below meth c C hmi
  generalize va_A (cWd Y S) sz = A at C ⊢
  have C : cC p s m args meth c cJ7_copyOf_6403c 4 (some (.array (.object "java/lang/Object"))) A D Y tp dp RJ7 := C
  refine cg_lv (lv' := [(0, .ref x0), (1, .int x1), (2, .ref mi)]) rfl ?_
  obtain ⟨n, hn1, hn2, hn3, hn4, -, h⟩ := h
  refine cg_aload_n C (i := 2) rfl 2 rfl dJ7_copyOf_6403c_0 ?_
  refine cg_ldcM C hmi (cWs_i2 85 rfl) dJ7_copyOf_6403c_1 ?_
  refine cg_acmp_ne C 13 (by decide) dJ7_copyOf_6403c_3 (fun c_ => absurd rfl c_) (fun _ => ?_)
  refine cg_iload_n C (i := 1) rfl 1 rfl dJ7_copyOf_6403c_6 ?_
  refine cg_cast (.int (nI n)) (congrArg Value.int hn1) ?_
  refine cg_newO C n hn2 (cWs_i2 86 rfl) hn3 hn4 dJ7_copyOf_6403c_7 (fun q hq hqd => ?_)
  have h := h q hq hqd
  refine cg_nm (fun S1 e1 => ?_)
  obtain ⟨ha, h⟩ := h S1 e1
  refine cg_goto C 24 (by decide) dJ7_copyOf_6403c_10 ?_
  refine cg_astore_n (lv' := [(3, .ref q), (0, .ref x0), (1, .int x1), (2, .ref mi)]) C (i := 3) rfl (Nat.le_of_ble_eq_true rfl) rfl dJ7_copyOf_6403c_24 ?_
  refine cg_aload_n C (i := 0) rfl 1 rfl dJ7_copyOf_6403c_25 ?_
  refine cg_iconst C (x := nI 0) rfl dJ7_copyOf_6403c_26 ?_
  refine cg_aload_n C (i := 3) rfl 0 rfl dJ7_copyOf_6403c_27 ?_
  refine cg_iconst C (x := nI 0) rfl dJ7_copyOf_6403c_28 ?_
  refine cg_aload_n C (i := 0) rfl 1 rfl dJ7_copyOf_6403c_29 ?_
  refine cg_alen C ha.1 ha.2 (by decide) (by decide) dJ7_copyOf_6403c_30 ?_
  refine cg_iload_n C (i := 1) rfl 2 rfl dJ7_copyOf_6403c_31 ?_
  refine cg_mmin C cmmin_J7_304 cmmin_s cmm_i cmmin_c (Nat.le_of_ble_eq_true rfl) (Nat.le_of_ble_eq_true rfl) hn3 hn4 dJ7_copyOf_6403c_32 ?_
  refine cg_nmI (fun z ez => ?_)
  obtain ⟨hcp, h⟩ := h z ez
  refine cg_copy17 C hcp cac_J7_150 (Nat.le_of_ble_eq_true rfl) (Nat.le_of_ble_eq_true rfl) dJ7_copyOf_6403c_35 ?_
  refine cg_nm (fun S2 e2 => ?_)
  have h := h S2 e2
  refine cg_aload_n C (i := 3) rfl 0 rfl dJ7_copyOf_6403c_38 ?_
  exact cg_aret C rfl (Or.inr ⟨_, rfl⟩) h dJ7_copyOf_6403c_39 hn3 hn4
theorem t_J7_copyOf_1904c (l : Launch) (mc ms : Nat) (x0 : Nat) (x1 : Int32) (S : cS) (dp : Nat) {P : Nat → cS → Prop} (h : k_J7_copyOf_1904c P dp mc ms x0 x1 S) : cMet (cQr P) l yJ7_copyOf_1904c cJ7_copyOf_1904c 2 (some (.array (.object "java/lang/Object"))) 3 mc ms 80 [.ref x0, .int x1] S dp := by
  intro D Y tp sz
  refine cg_body (by decide +kernel) (Nat.le_of_ble_eq_true rfl) ?_
  intro p e s m args below meth c C
  generalize va_A (cWd Y S) sz = A at C ⊢
  have C : cC p s m args meth c cJ7_copyOf_1904c 2 (some (.array (.object "java/lang/Object"))) A D Y tp dp RJ7 := C
  obtain ⟨mi, hmi⟩ := C.2.2.2.2.2.2.2.2.2.2.2.2.2.2.2.2.2.2.2.2.1.2
  have ha : cA S x0 17 := by obtain ⟨n, -, -, -, -, ha, -⟩ := h; exact ha
  refine cg_lv (lv' := [(0, .ref x0), (1, .int x1)]) rfl ?_
  refine cg_aload_n C (i := 0) rfl 0 rfl dJ7_copyOf_1904c_0 ?_
  refine cg_iload_n C (i := 1) rfl 1 rfl dJ7_copyOf_1904c_1 ?_
  refine cg_aload_n C (i := 0) rfl 0 rfl dJ7_copyOf_1904c_2 ?_
  refine cg_getC C hmi (cWs_i2 90 rfl) ha.1 ha.2 (Nat.le_of_ble_eq_true rfl) (Nat.le_of_ble_eq_true rfl) dJ7_copyOf_1904c_3 ?_
  refine cg_callsrM C hmi (t_J7_copyOf_6403c l mc ms x0 mi x1 S dp h) cc_J7_300 rfl ⟨by decide, by decide⟩ ⟨by omega, by omega⟩ rfl (Nat.le_of_ble_eq_true rfl) dJ7_copyOf_1904c_6 (fun r u h => ?_)
  exact cg_aret C rfl (Or.inr ⟨_, rfl⟩) h dJ7_copyOf_1904c_9 (by omega) (by omega)
