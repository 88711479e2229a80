/-! the class: references put, rows and objects made, calls -/
section CGB
variable {p : Program} {l : Launch} {e : Env} {R : Room} {s : State} {m : MethodId} {args : Array Value} {below : List Frame} {meth : Method} {c : Code} {cc : ByteArray} {nL : Nat} {ret : Option FieldType} {A : Nat → Prop} {D : va_G} {Y : cY} {tp dp : Nat} {own : String} {Q : State → Prop} {cells slots : Nat}
variable {pc : Nat} {lv lv' : List (Nat × Value)} {st : List Value} {S : cS}
abbrev cQr (post : Nat → cS → Prop) : (D : va_G) → (Y : cY) → (A : Nat → Prop) → Array Value → State → Outcome → State → Prop := fun D Y A => va_Qr (S := cS) (fun _ => True) (fun u a t => post a u ∧ cB D Y A u t) A
theorem cg_bodyI {y : MethodName} {fr mc ms lo sz : Nat} {av : List Value} {Qc : Array Value → State → Outcome → State → Prop} (hy : plainName y.cls = true) (hlen : (lg_sl av).length ≤ nL)
    (body : ∀ (p : Program) (e : Env) (s : State) (m : MethodId) (args : Array Value) (below : List Frame) (meth : Method) (c : Code), cC p s m args meth c cc nL ret (va_A (cWd Y S) sz) D Y tp dp y.cls → meth.name = y.name → cG p l e (cRm fr mc ms lo) s m args below meth c (va_A (cWd Y S) sz) D Y nL (MQ below Qc args s mc ms (va_A (cWd Y S) sz)) 0 0 0 (lv_args 0 av) [] S) : Met l y (.code y cc nL ret :: cWs) (cRm fr mc ms lo) (va_Pc av (cPre D Y tp dp S sz)) Qc mc ms (va_A (cWd Y S) sz) := by
  refine Met.ofW (cc := cc) (maxL := nL) (ret := ret) hy rfl ?_
  intro p e s m args below meth c s₁ B hml hv
  obtain ⟨rfl, hsz, hP, hK, hD0, hE⟩ := hv
  have hts := atoms_spec (ws := Cond.code y cc nL ret :: cWs) B.pre
  have hown : s.vm.findClass y.cls = some m.cls := findClass_of_methodNamed B.named
  have hl := lv_entry av (n := nL) hlen
  rw [lg_entry_eq]
  subst hsz
  exact body p e s m _ below meth c ⟨B.exec, B.bytes, hml, hown, fun w h => hts w (List.mem_cons_of_mem _ h), hK, B.notSynchronized, B.returns, fun q h => Or.inr h, hE⟩ (name_of_methodNamed B.named B.method).1 s.heap [] _ hP hD0.self va_S.rf hl
theorem cF_setr {S : cS} {k j a : Nat} {x : Option Nat} (hj : j < (kF.getD k []).length) (hj2 : (kF.getD k []).length ≤ 32) (ht : (kF.getD k []).getD j 0 = 1) : (cF S k a).set j (va_rf x) = cF (cSr S (32 * k + j) a x) k a := by
  unfold cF
  apply List.ext_getElem?
  intro i
  rw [List.getElem?_set]
  by_cases e : j = i
  · subst e
    rw [if_pos rfl, if_pos (by simpa using hj), List.getElem?_map, List.getElem?_range hj]
    show _ = some (cV _ k j a)
    unfold cV
    rw [if_neg (by rw [ht]; decide), if_pos ht]
    show _ = some (va_rf (mU (cr S) (32 * k + j) a x (32 * k + j) a))
    rw [mU_at]
  · rw [if_neg e]
    by_cases hi : i < (kF.getD k []).length
    · rw [List.getElem?_map, List.getElem?_map, List.getElem?_range hi]
      show some (cV S k i a) = some (cV _ k i a)
      unfold cV
      rw [show cr (cSr S (32 * k + j) a x) (32 * k + i) a = cr S (32 * k + i) a from mU_nq (by omega)]
      rfl
    · rw [List.getElem?_eq_none (by simpa using hi), List.getElem?_eq_none (by simpa using hi)]
theorem cF_setw {S : cS} {k j a : Nat} {x : Int64} (hj : j < (kF.getD k []).length) (hj2 : (kF.getD k []).length ≤ 32) (ht : (kF.getD k []).getD j 0 = 2) : (cF S k a).set j (.long x) = cF (cSw S (32 * k + j) a x) k a := by
  unfold cF
  apply List.ext_getElem?
  intro i
  rw [List.getElem?_set]
  by_cases e : j = i
  · subst e
    rw [if_pos rfl, if_pos (by simpa using hj), List.getElem?_map, List.getElem?_range hj]
    show _ = some (cV _ k j a)
    unfold cV
    rw [if_neg (by rw [ht]; decide), if_neg (by rw [ht]; decide)]
    show _ = some (Value.long (mU (cw S) (32 * k + j) a x (32 * k + j) a))
    rw [mU_at]
  · rw [if_neg e]
    by_cases hi : i < (kF.getD k []).length
    · rw [List.getElem?_map, List.getElem?_map, List.getElem?_range hi]
      show some (cV S k i a) = some (cV _ k i a)
      unfold cV
      rw [show cw (cSw S (32 * k + j) a x) (32 * k + i) a = cw S (32 * k + i) a from mU_nq (by omega)]
      rfl
    · rw [List.getElem?_eq_none (by simpa using hi), List.getElem?_eq_none (by simpa using hi)]
theorem cg_putr (C : cC p s m args meth c cc nL ret A D Y tp dp own) {a k j idx N : Nat} {C' : String} {T : u_T} {ty : Nat → FieldType} {fty : FieldType} {x : Option Nat} (ha : a ∈ cL S) (hK' : cK S a = k) (hk : k < 13) (hc : vwCl[kC k]? = some (C', T, N)) (hj : j < N) (hlen : (kF.getD k []).length = N) (h32 : N ≤ 32) (ht : (kF.getD k []).getD j 0 = 1) (hin : ∀ w ∈ u_ws C' T N, w ∈ cWs) (hty : ∀ k, k < N → parseFieldDescriptor (T k).2.2.1 = some (ty k)) (hnm : ∀ a, a < N → ∀ b, b < N → a ≠ b → (T a).2.1 ≠ (T b).2.1) (hl : Cond.fieldLink own idx C' (T j).2.1 (T j).2.2.1 ∈ cWs) (hR : (T j).1 = C') (hf : (T j).2.2.2 = false) (hfty : ty j = fty) (hn : narrow fty (va_rf x) = (va_rf x)) (hfit : fits fty (va_rf x) = true) (d : decode cc pc = .ok (.putfield idx, 3)) (kk : cG p l e R s m args below meth c A D Y nL Q cells slots (pc + 3) lv st (cSr S (32 * k + j) a x)) : cG p l e R s m args below meth c A D Y nL Q cells slots pc lv ((va_rf x) :: .ref a :: st) S := by
  intro H locs ls hP hD hS hlv
  obtain ⟨hx, hb, hml, hown, hts, hK, hlo, hr, hA, hE⟩ := C
  obtain ⟨q, hq0⟩ := cWd_at (Y := Y) ha
  have hq := hq0
  rw [cE_o hK' hk] at hq
  refine va_put (ref := C') (C := C') (T := T) (N := N) (ci := kC k) (v := (va_rf x)) (ty := fty) hx hb hts hin ty hty hnm hown hK hP hD hS q hq hc j hj (hts _ hl) (fun x h => by rw [← hR]; exact h) hf (by rw [← hfty]; exact hty j hj) hn hfit (by unfold cF; rw [List.length_map, List.length_range, hlen]; exact hj) d (fun H1 locs1 hP1 hD1 hS1 => ?_)
  have hs : (cWd Y S).set q (a, .inr (kC k, (cF S k a).set j (va_rf x))) = cWd Y (cSr S (32 * k + j) a x) :=
    cWd_set hD ha hq0 rfl ((cE_o (S := cSr S (32 * k + j) a x) hK' hk).trans (by rw [cF_setr (by omega) (by omega) ht])) (fun b hb => cE_eq rfl (fun q => rfl) (fun q => mU_ne hb) (fun q => rfl) rfl rfl rfl rfl)
  rw [hs] at hP1 hD1
  exact kk H1 locs1 ls hP1 hD1 hS1 hlv
theorem cg_putrF (C : cC p s m args meth c cc nL ret A D Y tp dp own) {a k j idx N : Nat} {C' : String} {T : u_T} {ty : Nat → FieldType} {fty : FieldType} {x : Option Nat} (ha : a ∈ cL S) (hK' : cK S a = k) (hk : k < 13) (hc : vwCl[kC k]? = some (C', T, N)) (hj : j < N) (hlen : (kF.getD k []).length = N) (h32 : N ≤ 32) (ht : (kF.getD k []).getD j 0 = 1) (hin : ∀ w ∈ u_ws C' T N, w ∈ cWs) (hty : ∀ k, k < N → parseFieldDescriptor (T k).2.2.1 = some (ty k)) (hnm : ∀ a, a < N → ∀ b, b < N → a ≠ b → (T a).2.1 ≠ (T b).2.1) (hl : Cond.fieldLink own idx C' (T j).2.1 (T j).2.2.1 ∈ cWs) (hR : (T j).1 = C') (hf : (T j).2.2.2 = true) (hin2 : meth.name = "<init>") (hdecl : (T j).1 = own) (hfty : ty j = fty) (hn : narrow fty (va_rf x) = (va_rf x)) (hfit : fits fty (va_rf x) = true) (d : decode cc pc = .ok (.putfield idx, 3)) (kk : cG p l e R s m args below meth c A D Y nL Q cells slots (pc + 3) lv st (cSr S (32 * k + j) a x)) : cG p l e R s m args below meth c A D Y nL Q cells slots pc lv ((va_rf x) :: .ref a :: st) S := by
  intro H locs ls hP hD hS hlv
  obtain ⟨hx, hb, hml, hown, hts, hK, hlo, hr, hA, hE⟩ := C
  obtain ⟨q, hq0⟩ := cWd_at (Y := Y) ha
  have hq := hq0
  rw [cE_o hK' hk] at hq
  refine va_putF (ref := C') (C := C') (T := T) (N := N) (ci := kC k) (v := (va_rf x)) (ty := fty) hx hb hts hin ty hty hnm hown hK hP hD hS q hq hc j hj (hts _ hl) (fun x h => by rw [← hR]; exact h) hf hin2 hdecl (by rw [← hfty]; exact hty j hj) hn hfit (by unfold cF; rw [List.length_map, List.length_range, hlen]; exact hj) d (fun H1 locs1 hP1 hD1 hS1 => ?_)
  have hs : (cWd Y S).set q (a, .inr (kC k, (cF S k a).set j (va_rf x))) = cWd Y (cSr S (32 * k + j) a x) :=
    cWd_set hD ha hq0 rfl ((cE_o (S := cSr S (32 * k + j) a x) hK' hk).trans (by rw [cF_setr (by omega) (by omega) ht])) (fun b hb => cE_eq rfl (fun q => rfl) (fun q => mU_ne hb) (fun q => rfl) rfl rfl rfl rfl)
  rw [hs] at hP1 hD1
  exact kk H1 locs1 ls hP1 hD1 hS1 hlv
theorem cg_putiF (C : cC p s m args meth c cc nL ret A D Y tp dp own) {a k j idx N : Nat} {C' : String} {T : u_T} {ty : Nat → FieldType} {fty : FieldType} {x : Int32} (ha : a ∈ cL S) (hK' : cK S a = k) (hk : k < 13) (hc : vwCl[kC k]? = some (C', T, N)) (hj : j < N) (hlen : (kF.getD k []).length = N) (h32 : N ≤ 32) (ht : (kF.getD k []).getD j 0 = 0) (hin : ∀ w ∈ u_ws C' T N, w ∈ cWs) (hty : ∀ k, k < N → parseFieldDescriptor (T k).2.2.1 = some (ty k)) (hnm : ∀ a, a < N → ∀ b, b < N → a ≠ b → (T a).2.1 ≠ (T b).2.1) (hl : Cond.fieldLink own idx C' (T j).2.1 (T j).2.2.1 ∈ cWs) (hR : (T j).1 = C') (hf : (T j).2.2.2 = true) (hin2 : meth.name = "<init>") (hdecl : (T j).1 = own) (hfty : ty j = fty) (hn : narrow fty (.int x) = (.int x)) (hfit : fits fty (.int x) = true) (d : decode cc pc = .ok (.putfield idx, 3)) (kk : cG p l e R s m args below meth c A D Y nL Q cells slots (pc + 3) lv st (cSi S (32 * k + j) a x)) : cG p l e R s m args below meth c A D Y nL Q cells slots pc lv ((.int x) :: .ref a :: st) S := by
  intro H locs ls hP hD hS hlv
  obtain ⟨hx, hb, hml, hown, hts, hK, hlo, hr, hA, hE⟩ := C
  obtain ⟨q, hq0⟩ := cWd_at (Y := Y) ha
  have hq := hq0
  rw [cE_o hK' hk] at hq
  refine va_putF (ref := C') (C := C') (T := T) (N := N) (ci := kC k) (v := (.int x)) (ty := fty) hx hb hts hin ty hty hnm hown hK hP hD hS q hq hc j hj (hts _ hl) (fun x h => by rw [← hR]; exact h) hf hin2 hdecl (by rw [← hfty]; exact hty j hj) hn hfit (by unfold cF; rw [List.length_map, List.length_range, hlen]; exact hj) d (fun H1 locs1 hP1 hD1 hS1 => ?_)
  have hs : (cWd Y S).set q (a, .inr (kC k, (cF S k a).set j (.int x))) = cWd Y (cSi S (32 * k + j) a x) :=
    cWd_set hD ha hq0 rfl ((cE_o (S := cSi S (32 * k + j) a x) hK' hk).trans (by rw [cF_seti (by omega) (by omega) ht])) (fun b hb => cE_eq rfl (fun q => mU_ne hb) (fun q => rfl) (fun q => rfl) rfl rfl rfl rfl)
  rw [hs] at hP1 hD1
  exact kk H1 locs1 ls hP1 hD1 hS1 hlv
theorem cg_putwF (C : cC p s m args meth c cc nL ret A D Y tp dp own) {a k j idx N : Nat} {C' : String} {T : u_T} {ty : Nat → FieldType} {fty : FieldType} {x : Int64} (ha : a ∈ cL S) (hK' : cK S a = k) (hk : k < 13) (hc : vwCl[kC k]? = some (C', T, N)) (hj : j < N) (hlen : (kF.getD k []).length = N) (h32 : N ≤ 32) (ht : (kF.getD k []).getD j 0 = 2) (hin : ∀ w ∈ u_ws C' T N, w ∈ cWs) (hty : ∀ k, k < N → parseFieldDescriptor (T k).2.2.1 = some (ty k)) (hnm : ∀ a, a < N → ∀ b, b < N → a ≠ b → (T a).2.1 ≠ (T b).2.1) (hl : Cond.fieldLink own idx C' (T j).2.1 (T j).2.2.1 ∈ cWs) (hR : (T j).1 = C') (hf : (T j).2.2.2 = true) (hin2 : meth.name = "<init>") (hdecl : (T j).1 = own) (hfty : ty j = fty) (hn : narrow fty (.long x) = (.long x)) (hfit : fits fty (.long x) = true) (d : decode cc pc = .ok (.putfield idx, 3)) (kk : cG p l e R s m args below meth c A D Y nL Q cells slots (pc + 3) lv st (cSw S (32 * k + j) a x)) : cG p l e R s m args below meth c A D Y nL Q cells slots pc lv ((.long x) :: .ref a :: st) S := by
  intro H locs ls hP hD hS hlv
  obtain ⟨hx, hb, hml, hown, hts, hK, hlo, hr, hA, hE⟩ := C
  obtain ⟨q, hq0⟩ := cWd_at (Y := Y) ha
  have hq := hq0
  rw [cE_o hK' hk] at hq
  refine va_putF (ref := C') (C := C') (T := T) (N := N) (ci := kC k) (v := (.long x)) (ty := fty) hx hb hts hin ty hty hnm hown hK hP hD hS q hq hc j hj (hts _ hl) (fun x h => by rw [← hR]; exact h) hf hin2 hdecl (by rw [← hfty]; exact hty j hj) hn hfit (by unfold cF; rw [List.length_map, List.length_range, hlen]; exact hj) d (fun H1 locs1 hP1 hD1 hS1 => ?_)
  have hs : (cWd Y S).set q (a, .inr (kC k, (cF S k a).set j (.long x))) = cWd Y (cSw S (32 * k + j) a x) :=
    cWd_set hD ha hq0 rfl ((cE_o (S := cSw S (32 * k + j) a x) hK' hk).trans (by rw [cF_setw (by omega) (by omega) ht])) (fun b hb => cE_eq rfl (fun q => rfl) (fun q => rfl) (fun q => mU_ne hb) rfl rfl rfl rfl)
  rw [hs] at hP1 hD1
  exact kk H1 locs1 ls hP1 hD1 hS1 hlv
theorem cg_putw (C : cC p s m args meth c cc nL ret A D Y tp dp own) {a k j idx N : Nat} {C' : String} {T : u_T} {ty : Nat → FieldType} {fty : FieldType} {x : Int64} (ha : a ∈ cL S) (hK' : cK S a = k) (hk : k < 13) (hc : vwCl[kC k]? = some (C', T, N)) (hj : j < N) (hlen : (kF.getD k []).length = N) (h32 : N ≤ 32) (ht : (kF.getD k []).getD j 0 = 2) (hin : ∀ w ∈ u_ws C' T N, w ∈ cWs) (hty : ∀ k, k < N → parseFieldDescriptor (T k).2.2.1 = some (ty k)) (hnm : ∀ a, a < N → ∀ b, b < N → a ≠ b → (T a).2.1 ≠ (T b).2.1) (hl : Cond.fieldLink own idx C' (T j).2.1 (T j).2.2.1 ∈ cWs) (hR : (T j).1 = C') (hf : (T j).2.2.2 = false) (hfty : ty j = fty) (hn : narrow fty (.long x) = (.long x)) (hfit : fits fty (.long x) = true) (d : decode cc pc = .ok (.putfield idx, 3)) (kk : cG p l e R s m args below meth c A D Y nL Q cells slots (pc + 3) lv st (cSw S (32 * k + j) a x)) : cG p l e R s m args below meth c A D Y nL Q cells slots pc lv ((.long x) :: .ref a :: st) S := by
  intro H locs ls hP hD hS hlv
  obtain ⟨hx, hb, hml, hown, hts, hK, hlo, hr, hA, hE⟩ := C
  obtain ⟨q, hq0⟩ := cWd_at (Y := Y) ha
  have hq := hq0
  rw [cE_o hK' hk] at hq
  refine va_put (ref := C') (C := C') (T := T) (N := N) (ci := kC k) (v := (.long x)) (ty := fty) hx hb hts hin ty hty hnm hown hK hP hD hS q hq hc j hj (hts _ hl) (fun x h => by rw [← hR]; exact h) hf (by rw [← hfty]; exact hty j hj) hn hfit (by unfold cF; rw [List.length_map, List.length_range, hlen]; exact hj) d (fun H1 locs1 hP1 hD1 hS1 => ?_)
  have hs : (cWd Y S).set q (a, .inr (kC k, (cF S k a).set j (.long x))) = cWd Y (cSw S (32 * k + j) a x) :=
    cWd_set hD ha hq0 rfl ((cE_o (S := cSw S (32 * k + j) a x) hK' hk).trans (by rw [cF_setw (by omega) (by omega) ht])) (fun b hb => cE_eq rfl (fun q => rfl) (fun q => rfl) (fun q => mU_ne hb) rfl rfl rfl rfl)
  rw [hs] at hP1 hD1
  exact kk H1 locs1 ls hP1 hD1 hS1 hlv
theorem cg_lastore (C : cC p s m args meth c cc nL ret A D Y tp dp own) {a : Nat} {x : Int64} (k : Nat) (ha : a ∈ cL S) (hK' : cK S a = 15) (hk : k < cn S a) (hN : cn S a < 2 ^ 31) (d : decode cc pc = .ok (.lastore, 1)) (kk : cG p l e R s m args below meth c A D Y nL Q cells slots (pc + 1) lv st (cSJ S a k x)) : cG p l e R s m args below meth c A D Y nL Q cells slots pc lv (.long x :: .int (nI k) :: .ref a :: st) S := by
  intro H locs ls hP hD hS hlv
  obtain ⟨hx, hb, hml, hown, hts, hK, hlo, hr, hA, hE⟩ := C
  obtain ⟨q, hq0⟩ := cWd_at (Y := Y) ha
  have hq := hq0
  rw [cE_J hK'] at hq
  refine va_last hx hb hK hP hD hS q 2 hq rfl (vp_in_nI hk hN) d (fun H1 locs1 hP1 hD1 hS1 => ?_)
  rw [nI_clamp (Nat.lt_trans hk hN)] at hP1 hD1
  have hs : (cWd Y S).set q (a, .inl (Y.2.2.1, cn S a, .inr (.inl (vp_updL (cJ S a) k x)))) = cWd Y (cSJ S a k x) :=
    cWd_set hD ha hq0 rfl ((cE_J (S := cSJ S a k x) hK').trans (by rw [show cJ (cSJ S a k x) a = vp_updL (cJ S a) k x from mU_s]; rfl)) (fun b hb => cE_eq rfl (fun _ => rfl) (fun _ => rfl) (fun _ => rfl) rfl rfl (mU_n hb) rfl)
  rw [hs] at hP1 hD1
  exact kk H1 locs1 ls hP1 hD1 hS1 hlv
theorem cg_zastore (C : cC p s m args meth c cc nL ret A D Y tp dp own) {a : Nat} {x : Int32} (k : Nat) (ha : a ∈ cL S) (hK' : cK S a = 16) (hk : k < cn S a) (hN : cn S a < 2 ^ 31) (hx2 : vp_nar .boolean x = x) (d : decode cc pc = .ok (.bastore, 1)) (kk : cG p l e R s m args below meth c A D Y nL Q cells slots (pc + 1) lv st (cSI S a k x)) : cG p l e R s m args below meth c A D Y nL Q cells slots pc lv (.int x :: .int (nI k) :: .ref a :: st) S := by
  intro H locs ls hP hD hS hlv
  obtain ⟨hx, hb, hml, hown, hts, hK, hlo, hr, hA, hE⟩ := C
  obtain ⟨q, hq0⟩ := cWd_at (Y := Y) ha
  have hq := hq0
  rw [cE_Z hK'] at hq
  refine va_zast hx hb hK hP hD hS q 3 hq rfl (vp_in_nI hk hN) d (fun H1 locs1 hP1 hD1 hS1 => ?_)
  rw [nI_clamp (Nat.lt_trans hk hN), hx2] at hP1 hD1
  have hs : (cWd Y S).set q (a, .inl (Y.2.2.2.1, cn S a, .inl (upd (cI S a) k x))) = cWd Y (cSI S a k x) :=
    cWd_set hD ha hq0 rfl ((cE_Z (S := cSI S a k x) hK').trans (by rw [show cI (cSI S a k x) a = upd (cI S a) k x from mU_s]; rfl)) (fun b hb => cE_eq rfl (fun _ => rfl) (fun _ => rfl) (fun _ => rfl) rfl (mU_n hb) rfl rfl)
  rw [hs] at hP1 hD1
  exact kk H1 locs1 ls hP1 hD1 hS1 hlv
theorem cg_bastore (C : cC p s m args meth c cc nL ret A D Y tp dp own) {a : Nat} {x : Int32} (k : Nat) (ha : a ∈ cL S) (hK' : cK S a = 13) (hk : k < cn S a) (hN : cn S a < 2 ^ 31) (hx2 : vp_nar .byte x = x) (d : decode cc pc = .ok (.bastore, 1)) (kk : cG p l e R s m args below meth c A D Y nL Q cells slots (pc + 1) lv st (cSI S a k x)) : cG p l e R s m args below meth c A D Y nL Q cells slots pc lv (.int x :: .int (nI k) :: .ref a :: st) S := by
  intro H locs ls hP hD hS hlv
  obtain ⟨hx, hb, hml, hown, hts, hK, hlo, hr, hA, hE⟩ := C
  obtain ⟨q, hq0⟩ := cWd_at (Y := Y) ha
  have hq := hq0
  rw [cE_B hK'] at hq
  refine va_bast hx hb hK hP hD hS q 0 hq rfl (vp_in_nI hk hN) d (fun H1 locs1 hP1 hD1 hS1 => ?_)
  rw [nI_clamp (Nat.lt_trans hk hN), hx2] at hP1 hD1
  have hs : (cWd Y S).set q (a, .inl (Y.1, cn S a, .inl (upd (cI S a) k x))) = cWd Y (cSI S a k x) :=
    cWd_set hD ha hq0 rfl ((cE_B (S := cSI S a k x) hK').trans (by rw [show cI (cSI S a k x) a = upd (cI S a) k x from mU_s]; rfl)) (fun b hb => cE_eq rfl (fun _ => rfl) (fun _ => rfl) (fun _ => rfl) rfl (mU_n hb) rfl rfl)
  rw [hs] at hP1 hD1
  exact kk H1 locs1 ls hP1 hD1 hS1 hlv
theorem cg_newI (C : cC p s m args meth c cc nL ret A D Y tp dp own) (k : Nat) (hk : k < 2 ^ 20) (harr : Cond.arrayClass .int ∈ cWs) (hcells : cells + 1 ≤ R.cells) (hslots : slots + k ≤ R.slots) (d : decode cc pc = .ok (.newarray .int, 2)) (kk : ∀ q, q ∉ cL S → cG p l e R s m args below meth c A D Y nL Q (cells + 1) (slots + k) (pc + 2) lv (.ref q :: st) (cNewA S q 14 k)) : cG p l e R s m args below meth c A D Y nL Q cells slots pc lv (.int (nI k) :: st) S := by
  intro H locs ls hP hD hS hlv
  obtain ⟨hx, hb, hml, hown, hts, hK, hlo, hr, hA, hE⟩ := C
  refine va_newa (atype := .int) (ty := .int) (N' := k) (a0 := (k, .inl (fun _ => 0))) hx hb (hts _ harr) rfl hK hP hD hS hA (fun cA => rfl) (nI_pos (by omega)) (nI_clamp (by omega)) (by simp [componentBytes]; omega) hcells hslots d (fun q cA H1 hK1 hP1 hD1 hS1 => ?_)
  have e : cA = Y.2.1 := by
    have h1 := (hK1.2 6 (cA, .int) rfl).2
    have h2 := (hK.2 1 (Y.2.1, .int) rfl).2
    exact Option.some.inj (h1.symm.trans h2)
  subst e
  have hf := cWd_fresh hD1
  have hp : cWd Y S ++ [(q, .inl (Y.2.1, (k, .inl (fun _ => 0))))] = cWd Y (cNewA S q 14 k) := cWd_push hf rfl ((cE_I (S := cNewA S q 14 k) (upR_s)).trans (by rw [show cn (cNewA S q 14 k) q = k from upR_s, show cI (cNewA S q 14 k) q = (fun _ => 0) from upR_s])) (fun b hb => cE_eq (upR_n hb) (fun _ => rfl) (fun _ => rfl) (fun _ => rfl) (upR_n hb) (upR_n hb) (upR_n hb) (upR_n hb))
  rw [hp] at hP1 hD1
  exact kk q hf H1 locs ls hP1 hD1 hS1 hlv
theorem cg_newJ (C : cC p s m args meth c cc nL ret A D Y tp dp own) (k : Nat) (hk : k < 2 ^ 20) (harr : Cond.arrayClass .long ∈ cWs) (hcells : cells + 1 ≤ R.cells) (hslots : slots + k ≤ R.slots) (d : decode cc pc = .ok (.newarray .long, 2)) (kk : ∀ q, q ∉ cL S → cG p l e R s m args below meth c A D Y nL Q (cells + 1) (slots + k) (pc + 2) lv (.ref q :: st) (cNewA S q 15 k)) : cG p l e R s m args below meth c A D Y nL Q cells slots pc lv (.int (nI k) :: st) S := by
  intro H locs ls hP hD hS hlv
  obtain ⟨hx, hb, hml, hown, hts, hK, hlo, hr, hA, hE⟩ := C
  refine va_newa (atype := .long) (ty := .long) (N' := k) (a0 := (k, .inr (.inl (fun _ => 0)))) hx hb (hts _ harr) rfl hK hP hD hS hA (fun cA => rfl) (nI_pos (by omega)) (nI_clamp (by omega)) (by simp [componentBytes]; omega) hcells hslots d (fun q cA H1 hK1 hP1 hD1 hS1 => ?_)
  have e : cA = Y.2.2.1 := by
    have h1 := (hK1.2 6 (cA, .long) rfl).2
    have h2 := (hK.2 2 (Y.2.2.1, .long) rfl).2
    exact Option.some.inj (h1.symm.trans h2)
  subst e
  have hf := cWd_fresh hD1
  have hp : cWd Y S ++ [(q, .inl (Y.2.2.1, (k, .inr (.inl (fun _ => 0)))))] = cWd Y (cNewA S q 15 k) := cWd_push hf rfl ((cE_J (S := cNewA S q 15 k) (upR_s)).trans (by rw [show cn (cNewA S q 15 k) q = k from upR_s, show cJ (cNewA S q 15 k) q = (fun _ => 0) from upR_s])) (fun b hb => cE_eq (upR_n hb) (fun _ => rfl) (fun _ => rfl) (fun _ => rfl) (upR_n hb) (upR_n hb) (upR_n hb) (upR_n hb))
  rw [hp] at hP1 hD1
  exact kk q hf H1 locs ls hP1 hD1 hS1 hlv
theorem cg_newZ (C : cC p s m args meth c cc nL ret A D Y tp dp own) (k : Nat) (hk : k < 2 ^ 20) (harr : Cond.arrayClass .boolean ∈ cWs) (hcells : cells + 1 ≤ R.cells) (hslots : slots + k ≤ R.slots) (d : decode cc pc = .ok (.newarray .boolean, 2)) (kk : ∀ q, q ∉ cL S → cG p l e R s m args below meth c A D Y nL Q (cells + 1) (slots + k) (pc + 2) lv (.ref q :: st) (cNewA S q 16 k)) : cG p l e R s m args below meth c A D Y nL Q cells slots pc lv (.int (nI k) :: st) S := by
  intro H locs ls hP hD hS hlv
  obtain ⟨hx, hb, hml, hown, hts, hK, hlo, hr, hA, hE⟩ := C
  refine va_newa (atype := .boolean) (ty := .boolean) (N' := k) (a0 := (k, .inl (fun _ => 0))) hx hb (hts _ harr) rfl hK hP hD hS hA (fun cA => rfl) (nI_pos (by omega)) (nI_clamp (by omega)) (by simp [componentBytes]; omega) hcells hslots d (fun q cA H1 hK1 hP1 hD1 hS1 => ?_)
  have e : cA = Y.2.2.2.1 := by
    have h1 := (hK1.2 6 (cA, .boolean) rfl).2
    have h2 := (hK.2 3 (Y.2.2.2.1, .boolean) rfl).2
    exact Option.some.inj (h1.symm.trans h2)
  subst e
  have hf := cWd_fresh hD1
  have hp : cWd Y S ++ [(q, .inl (Y.2.2.2.1, (k, .inl (fun _ => 0))))] = cWd Y (cNewA S q 16 k) := cWd_push hf rfl ((cE_Z (S := cNewA S q 16 k) (upR_s)).trans (by rw [show cn (cNewA S q 16 k) q = k from upR_s, show cI (cNewA S q 16 k) q = (fun _ => 0) from upR_s])) (fun b hb => cE_eq (upR_n hb) (fun _ => rfl) (fun _ => rfl) (fun _ => rfl) (upR_n hb) (upR_n hb) (upR_n hb) (upR_n hb))
  rw [hp] at hP1 hD1
  exact kk q hf H1 locs ls hP1 hD1 hS1 hlv
theorem cg_newB (C : cC p s m args meth c cc nL ret A D Y tp dp own) (k : Nat) (hk : k < 2 ^ 20) (harr : Cond.arrayClass .byte ∈ cWs) (hcells : cells + 1 ≤ R.cells) (hslots : slots + k ≤ R.slots) (d : decode cc pc = .ok (.newarray .byte, 2)) (kk : ∀ q, q ∉ cL S → cG p l e R s m args below meth c A D Y nL Q (cells + 1) (slots + k) (pc + 2) lv (.ref q :: st) (cNewA S q 13 k)) : cG p l e R s m args below meth c A D Y nL Q cells slots pc lv (.int (nI k) :: st) S := by
  intro H locs ls hP hD hS hlv
  obtain ⟨hx, hb, hml, hown, hts, hK, hlo, hr, hA, hE⟩ := C
  refine va_newa (atype := .byte) (ty := .byte) (N' := k) (a0 := (k, .inl (fun _ => 0))) hx hb (hts _ harr) rfl hK hP hD hS hA (fun cA => rfl) (nI_pos (by omega)) (nI_clamp (by omega)) (by simp [componentBytes]; omega) hcells hslots d (fun q cA H1 hK1 hP1 hD1 hS1 => ?_)
  have e : cA = Y.1 := by
    have h1 := (hK1.2 6 (cA, .byte) rfl).2
    have h2 := (hK.2 0 (Y.1, .byte) rfl).2
    exact Option.some.inj (h1.symm.trans h2)
  subst e
  have hf := cWd_fresh hD1
  have hp : cWd Y S ++ [(q, .inl (Y.1, (k, .inl (fun _ => 0))))] = cWd Y (cNewA S q 13 k) := cWd_push hf rfl ((cE_B (S := cNewA S q 13 k) (upR_s)).trans (by rw [show cn (cNewA S q 13 k) q = k from upR_s, show cI (cNewA S q 13 k) q = (fun _ => 0) from upR_s])) (fun b hb => cE_eq (upR_n hb) (fun _ => rfl) (fun _ => rfl) (fun _ => rfl) (upR_n hb) (upR_n hb) (upR_n hb) (upR_n hb))
  rw [hp] at hP1 hD1
  exact kk q hf H1 locs ls hP1 hD1 hS1 hlv
theorem cg_new (C : cC p s m args meth c cc nL ret A D Y tp dp own) {k idx N : Nat} {C' : String} {T : u_T} {ty : Nat → FieldType} {fs : List Value} (hk : k < 13) (hc : vwCl[kC k]? = some (C', T, N)) (hin : ∀ w ∈ u_ws C' T N, w ∈ cWs) (hty : ∀ k, k < N → parseFieldDescriptor (T k).2.2.1 = some (ty k)) (hcl : Cond.classLink own idx C' ∈ cWs) (hinst : Cond.instantiable C' N ∈ cWs) (hini : Cond.initialized C' ∈ cWs) (hfs : ∀ j, j < N → defaultValue (ty j) = vp_V fs j) (hz : fs = (kF.getD k []).map (fun t => if t = 0 then .int 0 else if t = 1 then .null else .long 0)) (hcells : cells + 1 ≤ R.cells) (hslots : slots + N ≤ R.slots) (d : decode cc pc = .ok (.new idx, 3)) (kk : ∀ q, q ∉ cL S → cG p l e R s m args below meth c A D Y nL Q (cells + 1) (slots + N) (pc + 3) lv (.ref q :: st) (cNew S q k)) : cG p l e R s m args below meth c A D Y nL Q cells slots pc lv st S := by
  intro H locs ls hP hD hS hlv
  obtain ⟨hx, hb, hml, hown, hts, hK, hlo, hr, hA, hE⟩ := C
  refine va_new (ci := kC k) (fs := fs) (C := C') (T := T) (N := N) hx hb hts hin ty hty hown (hts _ hcl) (hts _ hinst) (hts _ hini) hK hP hD hS hA hc hfs hcells hslots d (fun q H1 hP1 hD1 hS1 => ?_)
  have hf := cWd_fresh hD1
  have hF : cF (cNew S q k) k q = fs := by
    rw [hz]
    unfold cF
    apply List.ext_getElem?
    intro i
    rw [List.getElem?_map, List.getElem?_map]
    by_cases hi : i < (kF.getD k []).length
    · rw [List.getElem?_range hi, List.getElem?_eq_getElem hi]
      show some (cV _ k i q) = some _
      unfold cV
      have e1 : ci (cNew S q k) (32 * k + i) q = 0 := by show zA _ _ _ _ _ = _; simp [zA]
      have e2 : cr (cNew S q k) (32 * k + i) q = none := by show zA _ _ _ _ _ = _; simp [zA]
      have e3 : cw (cNew S q k) (32 * k + i) q = 0 := by show zA _ _ _ _ _ = _; simp [zA]
      rw [e1, e2, e3, List.getD_eq_getElem?_getD, List.getElem?_eq_getElem hi]
      rfl
    · rw [List.getElem?_eq_none (by simpa using hi), List.getElem?_eq_none (by simpa using hi)]; rfl
  have hp : cWd Y S ++ [(q, .inr (kC k, fs))] = cWd Y (cNew S q k) := cWd_push hf rfl ((cE_o (S := cNew S q k) (upR_s) hk).trans (by rw [hF])) (fun b hb => cE_eq (upR_n hb) (fun _ => by show zA _ _ _ _ _ = _; simp [zA, hb]) (fun _ => by show zA _ _ _ _ _ = _; simp [zA, hb]) (fun _ => by show zA _ _ _ _ _ = _; simp [zA, hb]) rfl rfl rfl rfl)
  rw [hp] at hP1 hD1
  exact kk q hf H1 locs ls hP1 hD1 hS1 hlv
theorem cg_objInit (C : cC p s m args meth c cc nL ret A D Y tp dp own) {a idx F M N L : Nat} (hl : Cond.methodLink own idx objectInit ∈ cWs) (hi : Cond.instanceMethod objectInit ∈ cWs) (hc : Cond.code objectInit ⟨#[0xb1]⟩ 1 none ∈ cWs) (hF : 1 ≤ F) (hL : (st.map fun v => v.category).sum + 12 ≤ L) (d : decode cc pc = .ok (.invokespecial idx, 3)) (kk : cG p l e (cRm F M N L) s m args below meth c A D Y nL Q cells slots (pc + 3) lv st S) : cG p l e (cRm F M N L) s m args below meth c A D Y nL Q cells slots pc lv (.ref a :: st) S := by
  intro H locs ls hP hD hS hlv
  obtain ⟨hx, hb, hml, hown, hts, hK, hlo, hr, hA, hE⟩ := C
  refine W.objInit hx hb hown (hts _ hl) (hts _ hi) (hts _ hc) rfl (by rw [hml]; exact hlv.1) rfl d hF ?_ ?_
  · have : (F0 m pc ls (.ref a :: st)).monitorRoom = 0 := rfl
    rw [this]
    show 2 * 0 + _ + 12 ≤ L
    omega
  · exact kk H locs ls hP hD hS hlv
theorem cg_aret (C : cC p s m args meth c cc nL ret A D Y tp dp own) {x : Nat} {rt : FieldType} {post : Nat → cS → Prop} {mc ms : Nat} (hrt : ret = some rt) (hrt2 : (∃ n, rt = .object n) ∨ ∃ t, rt = .array t) (h : post x S) (d : decode cc pc = .ok (.areturn, 1)) (hc : cells ≤ mc) (hs : slots ≤ ms) : cG p l e R s m args below meth c A D Y nL (MQ below (cQr post D Y A) args s mc ms A) cells slots pc lv [.ref x] S := by
  intro H locs ls hP hD hS hlv
  obtain ⟨hx, hb, hml, hown, hts, hK, hlo, hr, hA, hE⟩ := C
  exact W.widen hc hs (W.aret hx hb (hr.trans hrt) hrt2 (Or.inr ⟨x, rfl⟩) (fun t ht hW => ⟨⟨S, x, rfl, trivial, h, by rw [ht]; exact hP, va_K.moved hW.alike hK, hD⟩, hS.F ht⟩) hS.2.2 d hlo)
theorem cg_callsv (C : cC p s m args meth c cc nL ret A D Y tp dp own) {y : MethodName} {cc' : ByteArray} {nL' idx n fr mc ms lo F M N L : Nat} {ret' : Option FieldType} {As : List Value} {stk : List Value} {post : cS → Prop} (hM : cMet (cQv post) l y cc' nL' ret' fr mc ms lo (As) S dp) (hc : cCal true own idx y cc' nL' ret' n) (hn : As.length = n) (hR : fr + 1 ≤ F ∧ 8 + (nL' + 11) + lo ≤ L) (hm : cells + mc ≤ M ∧ slots + ms ≤ N) (hst : stk = As.reverse ++ st) (hsz : (st.map fun v => v.category).sum ≤ 8) (d : decode cc pc = .ok (.invokestatic idx, 3)) (kk : ∀ (S' : cS), post S' → cG p l e (cRm F M N L) s m args below meth c A D Y nL Q (cells + mc) (slots + ms) (pc + 3) lv st S') : cG p l e (cRm F M N L) s m args below meth c A D Y nL Q cells slots pc lv stk S := by
  intro H locs ls hP hD hS hlv
  have hp := c_pre (av := As) C hP hD hS
  obtain ⟨hx, hb, hml, hown, hts, hK, hlo, hr, hA, hE⟩ := C
  have hF := c_free hD hS hA
  obtain ⟨h1, h2, h3, h4, h5, h6⟩ := hc
  have hb1 : CallB (cRm F M N L) s args own idx y cc' nL' ret' (Cond.code y cc' nL' ret' :: cWs) (cRm fr mc ms lo) mc ms n := callB_of n hts (ccal_good h5) rfl rfl rfl (hts _ h3) (hts _ h2) ⟨h1.1, h1.2, h6⟩ hR
  refine va_callv (va_runS (As := As) (rest := st) ⟨hx, hb, hml, hown, hts⟩ (hM D Y tp H.size) ⟨hb1, hts _ h4⟩ hp rfl hn hlv.1 hst (lv_room hsz) d hm) hS (fun q _ h => hF q h) hF (fun u t H1 locs1 ht hvm hw hB hz1 hk1 hS1 => ?_)
  obtain ⟨hP1, hK1, hD1⟩ := hB
  rw [ht] at hP1
  exact kk u hw H1 locs1 ls hP1 (hD1.weaken (fun k q _ h => hF q.1 h)) hS1 hlv
theorem cg_callsr (C : cC p s m args meth c cc nL ret A D Y tp dp own) {y : MethodName} {cc' : ByteArray} {nL' idx n fr mc ms lo F M N L : Nat} {ret' : Option FieldType} {As : List Value} {stk : List Value} {post : Nat → cS → Prop} (hM : cMet (cQr post) l y cc' nL' ret' fr mc ms lo (As) S dp) (hc : cCal true own idx y cc' nL' ret' n) (hn : As.length = n) (hR : fr + 1 ≤ F ∧ 8 + (nL' + 11) + lo ≤ L) (hm : cells + mc ≤ M ∧ slots + ms ≤ N) (hst : stk = As.reverse ++ st) (hsz : (st.map fun v => v.category).sum ≤ 8) (d : decode cc pc = .ok (.invokestatic idx, 3)) (kk : ∀ (r : Nat) (S' : cS), post r S' → cG p l e (cRm F M N L) s m args below meth c A D Y nL Q (cells + mc) (slots + ms) (pc + 3) lv (.ref r :: st) S') : cG p l e (cRm F M N L) s m args below meth c A D Y nL Q cells slots pc lv stk S := by
  intro H locs ls hP hD hS hlv
  have hp := c_pre (av := As) C hP hD hS
  obtain ⟨hx, hb, hml, hown, hts, hK, hlo, hr, hA, hE⟩ := C
  have hF := c_free hD hS hA
  obtain ⟨h1, h2, h3, h4, h5, h6⟩ := hc
  have hb1 : CallB (cRm F M N L) s args own idx y cc' nL' ret' (Cond.code y cc' nL' ret' :: cWs) (cRm fr mc ms lo) mc ms n := callB_of n hts (ccal_good h5) rfl rfl rfl (hts _ h3) (hts _ h2) ⟨h1.1, h1.2, h6⟩ hR
  refine va_callr (va_runS (As := As) (rest := st) ⟨hx, hb, hml, hown, hts⟩ (hM D Y tp H.size) ⟨hb1, hts _ h4⟩ hp rfl hn hlv.1 hst (lv_room hsz) d hm) hS (fun q _ h => hF q h) hF (fun u r t H1 locs1 ht hvm hw hB hz1 hk1 hS1 => ?_)
  obtain ⟨hw, hP1, hK1, hD1⟩ := hB
  rw [ht] at hP1
  exact kk r u hw H1 locs1 ls hP1 (hD1.weaken (fun k q _ h => hF q.1 h)) hS1 hlv
theorem cg_callv (C : cC p s m args meth c cc nL ret A D Y tp dp own) {y : MethodName} {cc' : ByteArray} {nL' idx n fr mc ms lo F M N L : Nat} {a k NN : Nat} {T : u_T} {ret' : Option FieldType} {As : List Value} {stk : List Value} {post : cS → Prop} (hM : cMet (cQv post) l y cc' nL' ret' fr mc ms lo (.ref a :: As) S dp) (hc : cCal false own idx y cc' nL' ret' n) (ha : a ∈ cL S) (hK' : cK S a = k) (hk : k < 13) (hcl : vwCl[kC k]? = some (y.cls, T, NN)) (hn : As.length = n) (hR : fr + 1 ≤ F ∧ 8 + (nL' + 11) + lo ≤ L) (hm : cells + mc ≤ M ∧ slots + ms ≤ N) (hst : stk = As.reverse ++ .ref a :: st) (hsz : (st.map fun v => v.category).sum ≤ 8) (d : decode cc pc = .ok (.invokevirtual idx, 3)) (kk : ∀ (S' : cS), post S' → cG p l e (cRm F M N L) s m args below meth c A D Y nL Q (cells + mc) (slots + ms) (pc + 3) lv st S') : cG p l e (cRm F M N L) s m args below meth c A D Y nL Q cells slots pc lv stk S := by
  intro H locs ls hP hD hS hlv
  have hp := c_pre (av := .ref a :: As) C hP hD hS
  obtain ⟨hx, hb, hml, hown, hts, hK, hlo, hr, hA, hE⟩ := C
  have hF := c_free hD hS hA
  obtain ⟨h1, h2, h3, h4, h5, h6⟩ := hc
  have hb1 : CallB (cRm F M N L) s args own idx y cc' nL' ret' (Cond.code y cc' nL' ret' :: cWs) (cRm fr mc ms lo) mc ms n := callB_of n hts (ccal_good h5) rfl rfl rfl (hts _ h3) (hts _ h2) ⟨h1.1, h1.2, h6⟩ hR
  refine va_callv (va_runV (As := As) (rest := st) (C := y.cls) ⟨hx, hb, hml, hown, hts⟩ (hM D Y tp H.size) ⟨hb1, hts _ h4.1, hts _ h4.2⟩ ⟨hp.1, c_recv hK hP ha hK' hk hcl, hp.2⟩ rfl hn hlv.1 hst (lv_room hsz) d hm) hS (fun q _ h => hF q h) hF (fun u t H1 locs1 ht hvm hw hB hz1 hk1 hS1 => ?_)
  obtain ⟨hP1, hK1, hD1⟩ := hB
  rw [ht] at hP1
  exact kk u hw H1 locs1 ls hP1 (hD1.weaken (fun k q _ h => hF q.1 h)) hS1 hlv
theorem cg_calll (C : cC p s m args meth c cc nL ret A D Y tp dp own) {y : MethodName} {cc' : ByteArray} {nL' idx n fr mc ms lo F M N L : Nat} {a k NN : Nat} {T : u_T} {ret' : Option FieldType} {As : List Value} {stk : List Value} {post : Int64 → cS → Prop} (hM : cMet (cQl post) l y cc' nL' ret' fr mc ms lo (.ref a :: As) S dp) (hc : cCal false own idx y cc' nL' ret' n) (ha : a ∈ cL S) (hK' : cK S a = k) (hk : k < 13) (hcl : vwCl[kC k]? = some (y.cls, T, NN)) (hn : As.length = n) (hR : fr + 1 ≤ F ∧ 8 + (nL' + 11) + lo ≤ L) (hm : cells + mc ≤ M ∧ slots + ms ≤ N) (hst : stk = As.reverse ++ .ref a :: st) (hsz : (st.map fun v => v.category).sum ≤ 8) (d : decode cc pc = .ok (.invokevirtual idx, 3)) (kk : ∀ (r : Int64) (S' : cS), post r S' → cG p l e (cRm F M N L) s m args below meth c A D Y nL Q (cells + mc) (slots + ms) (pc + 3) lv (.long r :: st) S') : cG p l e (cRm F M N L) s m args below meth c A D Y nL Q cells slots pc lv stk S := by
  intro H locs ls hP hD hS hlv
  have hp := c_pre (av := .ref a :: As) C hP hD hS
  obtain ⟨hx, hb, hml, hown, hts, hK, hlo, hr, hA, hE⟩ := C
  have hF := c_free hD hS hA
  obtain ⟨h1, h2, h3, h4, h5, h6⟩ := hc
  have hb1 : CallB (cRm F M N L) s args own idx y cc' nL' ret' (Cond.code y cc' nL' ret' :: cWs) (cRm fr mc ms lo) mc ms n := callB_of n hts (ccal_good h5) rfl rfl rfl (hts _ h3) (hts _ h2) ⟨h1.1, h1.2, h6⟩ hR
  refine va_calll (va_runV (As := As) (rest := st) (C := y.cls) ⟨hx, hb, hml, hown, hts⟩ (hM D Y tp H.size) ⟨hb1, hts _ h4.1, hts _ h4.2⟩ ⟨hp.1, c_recv hK hP ha hK' hk hcl, hp.2⟩ rfl hn hlv.1 hst (lv_room hsz) d hm) hS (fun q _ h => hF q h) hF (fun r u t H1 locs1 ht hvm hw hB hz1 hk1 hS1 => ?_)
  obtain ⟨hP1, hK1, hD1⟩ := hB
  rw [ht] at hP1
  exact kk r u hw H1 locs1 ls hP1 (hD1.weaken (fun k q _ h => hF q.1 h)) hS1 hlv
theorem cg_callr (C : cC p s m args meth c cc nL ret A D Y tp dp own) {y : MethodName} {cc' : ByteArray} {nL' idx n fr mc ms lo F M N L : Nat} {a k NN : Nat} {T : u_T} {ret' : Option FieldType} {As : List Value} {stk : List Value} {post : Nat → cS → Prop} (hM : cMet (cQr post) l y cc' nL' ret' fr mc ms lo (.ref a :: As) S dp) (hc : cCal false own idx y cc' nL' ret' n) (ha : a ∈ cL S) (hK' : cK S a = k) (hk : k < 13) (hcl : vwCl[kC k]? = some (y.cls, T, NN)) (hn : As.length = n) (hR : fr + 1 ≤ F ∧ 8 + (nL' + 11) + lo ≤ L) (hm : cells + mc ≤ M ∧ slots + ms ≤ N) (hst : stk = As.reverse ++ .ref a :: st) (hsz : (st.map fun v => v.category).sum ≤ 8) (d : decode cc pc = .ok (.invokevirtual idx, 3)) (kk : ∀ (r : Nat) (S' : cS), post r S' → cG p l e (cRm F M N L) s m args below meth c A D Y nL Q (cells + mc) (slots + ms) (pc + 3) lv (.ref r :: st) S') : cG p l e (cRm F M N L) s m args below meth c A D Y nL Q cells slots pc lv stk S := by
  intro H locs ls hP hD hS hlv
  have hp := c_pre (av := .ref a :: As) C hP hD hS
  obtain ⟨hx, hb, hml, hown, hts, hK, hlo, hr, hA, hE⟩ := C
  have hF := c_free hD hS hA
  obtain ⟨h1, h2, h3, h4, h5, h6⟩ := hc
  have hb1 : CallB (cRm F M N L) s args own idx y cc' nL' ret' (Cond.code y cc' nL' ret' :: cWs) (cRm fr mc ms lo) mc ms n := callB_of n hts (ccal_good h5) rfl rfl rfl (hts _ h3) (hts _ h2) ⟨h1.1, h1.2, h6⟩ hR
  refine va_callr (va_runV (As := As) (rest := st) (C := y.cls) ⟨hx, hb, hml, hown, hts⟩ (hM D Y tp H.size) ⟨hb1, hts _ h4.1, hts _ h4.2⟩ ⟨hp.1, c_recv hK hP ha hK' hk hcl, hp.2⟩ rfl hn hlv.1 hst (lv_room hsz) d hm) hS (fun q _ h => hF q h) hF (fun u r t H1 locs1 ht hvm hw hB hz1 hk1 hS1 => ?_)
  obtain ⟨hw, hP1, hK1, hD1⟩ := hB
  rw [ht] at hP1
  exact kk r u hw H1 locs1 ls hP1 (hD1.weaken (fun k q _ h => hF q.1 h)) hS1 hlv
/-- a constructor, by its number in the caller's pool of constants -/
def cCtor (own : String) (idx : Nat) (y : MethodName) (cc : ByteArray) (nL n : Nat) : Prop := (y.cls ≠ "java/lang/invoke/MethodHandle" ∧ y.cls ≠ "java/lang/invoke/VarHandle") ∧ Cond.methodLink own idx y ∈ cWs ∧ Cond.initialized y.cls ∈ cWs ∧ Cond.instanceMethod y ∈ cWs ∧ Cond.code y cc nL none ∈ cWs ∧ (parseMethodDescriptor y.desc).map (fun d => d.parameters.length) = some n ∧ y.name = "<init>"
theorem cg_callI (C : cC p s m args meth c cc nL ret A D Y tp dp own) {y : MethodName} {cc' : ByteArray} {nL' idx n fr mc ms lo F M N L a : Nat} {As : List Value} {stk : List Value} {post : cS → Prop} (hM : cMet (cQv post) l y cc' nL' none fr mc ms lo (.ref a :: As) S dp) (hc : cCtor own idx y cc' nL' n) (hn : As.length = n) (hR : fr + 1 ≤ F ∧ 8 + (nL' + 11) + lo ≤ L) (hm : cells + mc ≤ M ∧ slots + ms ≤ N) (hst : stk = As.reverse ++ .ref a :: st) (hsz : (st.map fun v => v.category).sum ≤ 8) (d : decode cc pc = .ok (.invokespecial idx, 3)) (kk : ∀ (S' : cS), post S' → cG p l e (cRm F M N L) s m args below meth c A D Y nL Q (cells + mc) (slots + ms) (pc + 3) lv st S') : cG p l e (cRm F M N L) s m args below meth c A D Y nL Q cells slots pc lv stk S := by
  intro H locs ls hP hD hS hlv
  have hp := c_pre (av := .ref a :: As) C hP hD hS
  obtain ⟨hx, hb, hml, hown, hts, hK, hlo, hr, hA, hE⟩ := C
  have hF := c_free hD hS hA
  obtain ⟨h1, h2, h3, h4, h5, h6, h7⟩ := hc
  have hb1 : CallB (cRm F M N L) s args own idx y cc' nL' none (Cond.code y cc' nL' none :: cWs) (cRm fr mc ms lo) mc ms n := callB_of n hts (ccal_good h5) rfl rfl rfl (hts _ h3) (hts _ h2) ⟨h1.1, h1.2, h6⟩ hR
  refine va_callv (va_runI (As := As) (rest := st) ⟨hx, hb, hml, hown, hts⟩ (hM D Y tp H.size) ⟨hb1, h7, hts _ h4⟩ hp rfl hn hlv.1 hst (lv_room hsz) d hm) hS (fun q _ h => hF q h) hF (fun u t H1 locs1 ht hvm hw hB hz1 hk1 hS1 => ?_)
  obtain ⟨hP1, hK1, hD1⟩ := hB
  rw [ht] at hP1
  exact kk u hw H1 locs1 ls hP1 (hD1.weaken (fun k q _ h => hF q.1 h)) hS1 hlv
def cCtorN (own : String) (idx : Nat) (y : MethodName) (cc : ByteArray) (nL n : Nat) : Prop := (y.cls ≠ "java/lang/invoke/MethodHandle" ∧ y.cls ≠ "java/lang/invoke/VarHandle") ∧ (own, idx, y) ∈ cXM ∧ Cond.initialized y.cls ∈ cWs ∧ Cond.instanceMethod y ∈ cWs ∧ Cond.code y cc nL none ∈ cWs ∧ (parseMethodDescriptor y.desc).map (fun d => d.parameters.length) = some n ∧ y.name = "<init>"
theorem cg_callIN (C : cC p s m args meth c cc nL ret A D Y tp dp own) {y : MethodName} {cc' : ByteArray} {nL' idx n fr mc ms lo F M N L a : Nat} {As : List Value} {stk : List Value} {post : cS → Prop} (hM : cMet (cQv post) l y cc' nL' none fr mc ms lo (.ref a :: As) S dp) (hc : cCtorN own idx y cc' nL' n) (hn : As.length = n) (hR : fr + 1 ≤ F ∧ 8 + (nL' + 11) + lo ≤ L) (hm : cells + mc ≤ M ∧ slots + ms ≤ N) (hst : stk = As.reverse ++ .ref a :: st) (hsz : (st.map fun v => v.category).sum ≤ 8) (d : decode cc pc = .ok (.invokespecial idx, 3)) (kk : ∀ (S' : cS), post S' → cG p l e (cRm F M N L) s m args below meth c A D Y nL Q (cells + mc) (slots + ms) (pc + 3) lv st S') : cG p l e (cRm F M N L) s m args below meth c A D Y nL Q cells slots pc lv stk S := by
  intro H locs ls hP hD hS hlv
  have hp := c_pre (av := .ref a :: As) C hP hD hS
  obtain ⟨hx, hb, hml, hown, hts, hK, hlo, hr, hA, hE⟩ := C
  have hF := c_free hD hS hA
  obtain ⟨h1, h2, h3, h4, h5, h6, h7⟩ := hc
  have hb1 : va_CN (cRm F M N L) s args own idx y "SearchMill" cc' nL' none (Cond.code y cc' nL' none :: cWs) (cRm fr mc ms lo) mc ms n := va_cnB n hts (ccal_good h5) rfl rfl rfl (hE.2.2.2.2.2.2.2.2.2.2.2.2 _ h2) (hts _ h3) ⟨h1.1, h1.2, h6⟩ hR
  refine va_callv (va_runIN (As := As) (rest := st) ⟨hx, hb, hml, hown, hts⟩ (hM D Y tp H.size) ⟨hb1, h7, hts _ h4⟩ hp rfl hn hlv.1 hst (lv_room hsz) d hm) hS (fun q _ h => hF q h) hF (fun u t H1 locs1 ht hvm hw hB hz1 hk1 hS1 => ?_)
  obtain ⟨hP1, hK1, hD1⟩ := hB
  rw [ht] at hP1
  exact kk u hw H1 locs1 ls hP1 (hD1.weaken (fun k q _ h => hF q.1 h)) hS1 hlv
end CGB
