/-! the class: more instructions over the pool -/
section CGM
variable {p : Program} {l : Launch} {e : Env} {R : Room} {s : State} {m : MethodId} {args : Array Value} {below : List Frame} {meth : Method} {c : Code} {cc : ByteArray} {nL : Nat} {ret : Option FieldType} {A : Nat → Prop} {D : va_G} {Y : cY} {tp dp : Nat} {own : String} {Q : State → Prop} {cells slots : Nat}
variable {pc : Nat} {lv lv' : List (Nat × Value)} {st : List Value} {S : cS}
theorem c_same {args : Array Value} {s : State} {ref o n d : String} (hts : ∀ w ∈ cWs, w.before args s = true) (h : o = ref ∨ Cond.sameField ref o n d ∈ cWs) : ∀ x, s.fieldFound? o n d = some x → s.fieldFound? ref n d = some x := by
  rcases h with rfl | h
  · exact fun x h => h
  · exact fun x9 h9 => u_same (hts _ h) x9 h9
theorem cg_getS (C : cC p s m args meth c cc nL ret A D Y tp dp own) {a k j idx N : Nat} {C' ref : String} {T : u_T} (v : Value) (ha : a ∈ cL S) (hK' : cK S a = k) (hk : k < 13) (hc : vwCl[kC k]? = some (C', T, N)) (hj : j < N) (hlen : (kF.getD k []).length = N) (hv : cV S k j a = v) (hin : ∀ w ∈ u_ws C' T N, w ∈ cWs) (hl : Cond.fieldLink own idx ref (T j).2.1 (T j).2.2.1 ∈ cWs) (hsm : (T j).1 = ref ∨ Cond.sameField ref (T j).1 (T j).2.1 (T j).2.2.1 ∈ cWs) (d : decode cc pc = .ok (.getfield idx, 3)) (kk : cG p l e R s m args below meth c A D Y nL Q cells slots (pc + 3) lv (v :: st) S) : cG p l e R s m args below meth c A D Y nL Q cells slots pc lv (.ref a :: st) S := by
  intro H locs ls hP hD hS hlv
  obtain ⟨hx, hb, hml, hown, hts, hK, hlo, hr, hA, hE⟩ := C
  obtain ⟨q, hq⟩ := cWd_at (Y := Y) ha
  rw [cE_o hK' hk] at hq
  exact va_get (ref := ref) (C := C') (T := T) (N := N) (ci := kC k) hx hb hts hin hown hK hP q hq hc j hj (hts _ hl) (c_same hts hsm) ((cF_k (by rw [hlen]; exact hj)).trans (by rw [hv])) d (kk H locs ls hP hD hS hlv)
theorem cg_putiS (C : cC p s m args meth c cc nL ret A D Y tp dp own) {a k j idx N : Nat} {C' ref : String} {T : u_T} {ty : Nat → FieldType} {fty : FieldType} {x : Int32} (ha : a ∈ cL S) (hK' : cK S a = k) (hk : k < 13) (hc : vwCl[kC k]? = some (C', T, N)) (hj : j < N) (hlen : (kF.getD k []).length = N) (h32 : N ≤ 32) (ht : (kF.getD k []).getD j 0 = 0) (hin : ∀ w ∈ u_ws C' T N, w ∈ cWs) (hty : ∀ k, k < N → parseFieldDescriptor (T k).2.2.1 = some (ty k)) (hnm : ∀ a, a < N → ∀ b, b < N → a ≠ b → (T a).2.1 ≠ (T b).2.1) (hl : Cond.fieldLink own idx ref (T j).2.1 (T j).2.2.1 ∈ cWs) (hsm : (T j).1 = ref ∨ Cond.sameField ref (T j).1 (T j).2.1 (T j).2.2.1 ∈ cWs) (hf : (T j).2.2.2 = false) (hfty : ty j = fty) (hn : narrow fty (.int x) = .int x) (hfit : fits fty (.int x) = true) (d : decode cc pc = .ok (.putfield idx, 3)) (kk : cG p l e R s m args below meth c A D Y nL Q cells slots (pc + 3) lv st (cSi S (32 * k + j) a x)) : cG p l e R s m args below meth c A D Y nL Q cells slots pc lv (.int x :: .ref a :: st) S := by
  intro H locs ls hP hD hS hlv
  obtain ⟨hx, hb, hml, hown, hts, hK, hlo, hr, hA, hE⟩ := C
  obtain ⟨q, hq0⟩ := cWd_at (Y := Y) ha
  have hq := hq0
  rw [cE_o hK' hk] at hq
  refine va_put (ref := ref) (C := C') (T := T) (N := N) (ci := kC k) (v := .int x) (ty := fty) hx hb hts hin ty hty hnm hown hK hP hD hS q hq hc j hj (hts _ hl) (c_same hts hsm) hf (by rw [← hfty]; exact hty j hj) hn hfit (by unfold cF; rw [List.length_map, List.length_range, hlen]; exact hj) d (fun H1 locs1 hP1 hD1 hS1 => ?_)
  have hs : (cWd Y S).set q (a, .inr (kC k, (cF S k a).set j (.int x))) = cWd Y (cSi S (32 * k + j) a x) :=
    cWd_set hD ha hq0 rfl ((cE_o (S := cSi S (32 * k + j) a x) hK' hk).trans (by rw [cF_seti (by omega) (by omega) ht])) (fun b hb => cE_eq rfl (fun q => mU_ne hb) (fun _ => rfl) (fun _ => rfl) rfl rfl rfl rfl)
  rw [hs] at hP1 hD1
  exact kk H1 locs1 ls hP1 hD1 hS1 hlv
theorem cg_dflt (C : cC p s m args meth c cc nL ret A D Y tp dp own) {idx : Nat} (hl : Cond.fieldLink own idx RJx4a65c "DEFAULTCAPACITY_EMPTY_ELEMENTDATA" "[Ljava/lang/Object;" ∈ cWs) (d : decode cc pc = .ok (.getstatic idx, 3)) (kk : cG p l e R s m args below meth c A D Y nL Q cells slots (pc + 3) lv (.ref dp :: st) S) : cG p l e R s m args below meth c A D Y nL Q cells slots pc lv st S := by
  intro H locs ls hP hD hS hlv
  obtain ⟨hx, hb, hml, hown, hts, hK, hlo, hr, hA, hE⟩ := C
  exact va_gets hx hb hE.2.2.1 hS hown (hts _ hl) (fun x h => h) d (kk H locs ls hP hD hS hlv)
theorem cg_dlen (C : cC p s m args meth c cc nL ret A D Y tp dp own) (d : decode cc pc = .ok (.arraylength, 1)) (kk : cG p l e R s m args below meth c A D Y nL Q cells slots (pc + 1) lv (.int (nI 0) :: st) S) : cG p l e R s m args below meth c A D Y nL Q cells slots pc lv (.ref dp :: st) S := by
  intro H locs ls hP hD hS hlv
  obtain ⟨hx, hb, hml, hown, hts, hK, hlo, hr, hA, hE⟩ := C
  exact va_tlen hx hb hE.2.2.2.1 hS (v := nI 0) rfl d (kk H locs ls hP hD hS hlv)
theorem cg_null (C : cC p s m args meth c cc nL ret A D Y tp dp own)  (d : decode cc pc = .ok (.aconst_null, 1)) (kk : cG p l e R s m args below meth c A D Y nL Q cells slots (pc + 1) lv (.null :: st) S) : cG p l e R s m args below meth c A D Y nL Q cells slots pc lv (st) S := fun H locs ls hP hD hS hl => lv_null C.1 C.2.1 d (kk H locs ls hP hD hS hl)
theorem cg_ifnonnull (C : cC p s m args meth c cc nL ret A D Y tp dp own) {x : Nat} {off : Int} (t : Nat) (ht : (pc : Int) + off = (t : Int)) (d : decode cc pc = .ok (.ifnonnull off, 3)) (kk : cG p l e R s m args below meth c A D Y nL Q cells slots t lv st S) : cG p l e R s m args below meth c A D Y nL Q cells slots pc lv (.ref x :: st) S := fun H locs ls hP hD hS hl => lv_ifnonnull C.1 C.2.1 d ht (kk H locs ls hP hD hS hl)
theorem cg_ifnonnullN (C : cC p s m args meth c cc nL ret A D Y tp dp own) {off : Int} (d : decode cc pc = .ok (.ifnonnull off, 3)) (kk : cG p l e R s m args below meth c A D Y nL Q cells slots (pc + 3) lv st S) : cG p l e R s m args below meth c A D Y nL Q cells slots pc lv (.null :: st) S := fun H locs ls hP hD hS hl => lv_ifnonnullN C.1 C.2.1 d (kk H locs ls hP hD hS hl)
theorem cg_ifnull (C : cC p s m args meth c cc nL ret A D Y tp dp own) {x : Nat} {off : Int} (d : decode cc pc = .ok (.ifnull off, 3)) (kk : cG p l e R s m args below meth c A D Y nL Q cells slots (pc + 3) lv st S) : cG p l e R s m args below meth c A D Y nL Q cells slots pc lv (.ref x :: st) S := fun H locs ls hP hD hS hl => lv_ifnull C.1 C.2.1 d (kk H locs ls hP hD hS hl)
theorem cg_ifnullN (C : cC p s m args meth c cc nL ret A D Y tp dp own) {off : Int} (t : Nat) (ht : (pc : Int) + off = (t : Int)) (d : decode cc pc = .ok (.ifnull off, 3)) (kk : cG p l e R s m args below meth c A D Y nL Q cells slots t lv st S) : cG p l e R s m args below meth c A D Y nL Q cells slots pc lv (.null :: st) S := fun H locs ls hP hD hS hl => lv_ifnullN C.1 C.2.1 d ht (kk H locs ls hP hD hS hl)
theorem cg_acmp_eq (C : cC p s m args meth c cc nL ret A D Y tp dp own) {x y : Nat} {off : Int} (t : Nat) (ht : (pc : Int) + off = (t : Int)) (d : decode cc pc = .ok (.if_acmp .eq off, 3)) (kt : x = y → cG p l e R s m args below meth c A D Y nL Q cells slots t lv st S) (kf : ¬ x = y → cG p l e R s m args below meth c A D Y nL Q cells slots (pc + 3) lv st S) : cG p l e R s m args below meth c A D Y nL Q cells slots pc lv (.ref y :: .ref x :: st) S := fun H locs ls hP hD hS hl => lv_acmp_eq (rx := some x) (ry := some y) C.1 C.2.1 d ht (fun q => kt (by simpa using q) H locs ls hP hD hS hl) (fun q => kf (by simpa using q) H locs ls hP hD hS hl)
theorem cg_acmp_ne (C : cC p s m args meth c cc nL ret A D Y tp dp own) {x y : Nat} {off : Int} (t : Nat) (ht : (pc : Int) + off = (t : Int)) (d : decode cc pc = .ok (.if_acmp .ne off, 3)) (kt : ¬ x = y → cG p l e R s m args below meth c A D Y nL Q cells slots t lv st S) (kf : x = y → cG p l e R s m args below meth c A D Y nL Q cells slots (pc + 3) lv st S) : cG p l e R s m args below meth c A D Y nL Q cells slots pc lv (.ref y :: .ref x :: st) S := fun H locs ls hP hD hS hl => lv_acmp_ne (rx := some x) (ry := some y) C.1 C.2.1 d ht (fun q => kt (by simpa using q) H locs ls hP hD hS hl) (fun q => kf (by simpa using q) H locs ls hP hD hS hl)
theorem cg_newO (C : cC p s m args meth c cc nL ret A D Y tp dp own) {idx : Nat} (k : Nat) (hk : k < 2 ^ 20) (hcl : Cond.classLink own idx "java/lang/Object" ∈ cWs) (hcells : cells + 1 ≤ R.cells) (hslots : slots + k ≤ R.slots) (d : decode cc pc = .ok (.anewarray idx, 3)) (kk : ∀ q, q ∉ cL S → q ≠ dp → cG p l e R s m args below meth c A D Y nL Q (cells + 1) (slots + k) (pc + 3) lv (.ref q :: st) (cNewA S q 17 k)) : cG p l e R s m args below meth c A D Y nL Q cells slots pc lv (.int (nI k) :: st) S := by
  intro H locs ls hP hD hS hlv
  obtain ⟨hx, hb, hml, hown, hts, hK, hlo, hr, hA, hE⟩ := C
  refine va_newq (N' := k) hx hb hown (hts _ hcl) hE.2.2.2.2.2.2.2.2.2.2.2.1.1 hK hP hD hS hA (nI_pos (by omega)) (nI_clamp (by omega)) (by omega) hcells hslots d (fun q cA H1 hK1 hP1 hD1 hS1 => ?_)
  have e : cA = Y.2.2.2.2.1 := by
    obtain ⟨_, _, _, _, _, h1⟩ := (hK1.2 6 (cA, .object "java/lang/Object") rfl).2
    obtain ⟨_, _, _, _, _, h2⟩ := (hK.2 4 (Y.2.2.2.2.1, .object "java/lang/Object") rfl).2
    exact Option.some.inj (h1.symm.trans h2)
  subst e
  have hf := cWd_fresh hD1
  have hqd : q ≠ dp := fun e => by
    obtain ⟨_, _, _, _, _, _, _, hn⟩ := hE.2.2.2.1
    have h2 : (cWd Y S ++ [(q, .inl (Y.2.2.2.2.1, (k, .inr (.inr (.inr (.inr (fun _ => none)))))))])[(cWd Y S).length]? = some (q, .inl (Y.2.2.2.2.1, (k, .inr (.inr (.inr (.inr (fun _ => none))))))) := by rw [List.getElem?_append_right (Nat.le_refl _), Nat.sub_self]; rfl
    have h3 : A q := hD1.2 _ _ h2
    rw [e] at h3
    exact hn h3
  have hp : cWd Y S ++ [(q, .inl (Y.2.2.2.2.1, (k, .inr (.inr (.inr (.inr (fun _ => none)))))))] = cWd Y (cNewA S q 17 k) := cWd_push hf rfl ((cE_O (S := cNewA S q 17 k) (upR_s)).trans (by rw [show cn (cNewA S q 17 k) q = k from upR_s, show cO (cNewA S q 17 k) q = (fun _ => none) from upR_s])) (fun b hb => cE_eq (upR_n hb) (fun _ => rfl) (fun _ => rfl) (fun _ => rfl) (upR_n hb) (upR_n hb) (upR_n hb) (upR_n hb))
  rw [hp] at hP1 hD1
  exact kk q hf hqd H1 locs ls hP1 hD1 hS1 hlv
theorem cg_aastore (C : cC p s m args meth c cc nL ret A D Y tp dp own) {a v kv NN : Nat} {C' : String} {T : u_T} (k : Nat) (ha : a ∈ cL S) (hK' : cK S a = 17) (hk : k < cn S a) (hN : cn S a < 2 ^ 31) (hv : v ∈ cL S) (hKv : cK S v = kv) (hkv : kv < 13) (hcl : vwCl[kC kv]? = some (C', T, NN)) (hca : (C', "java/lang/Object") ∈ cXC) (d : decode cc pc = .ok (.aastore, 1)) (kk : cG p l e R s m args below meth c A D Y nL Q cells slots (pc + 1) lv st (cSO S a k (some v))) : cG p l e R s m args below meth c A D Y nL Q cells slots pc lv (.ref v :: .int (nI k) :: .ref a :: st) S := by
  intro H locs ls hP hD hS hlv
  obtain ⟨hx, hb, hml, hown, hts, hK, hlo, hr, hA, hE⟩ := C
  obtain ⟨q, hq0⟩ := cWd_at (Y := Y) ha
  have hq := hq0
  rw [cE_O hK'] at hq
  obtain ⟨qv, hqv⟩ := cWd_at (Y := Y) hv
  rw [cE_o hKv hkv] at hqv
  refine va_astqO hx hb hK hP hD hS q 4 qv (kC kv) hq rfl (hE.2.2.2.2.2.2.2.1 (C', "java/lang/Object") hca) hqv hcl (vp_in_nI hk hN) d (fun H1 locs1 hP1 hD1 hS1 => ?_)
  rw [nI_clamp (Nat.lt_trans hk hN)] at hP1 hD1
  have hs : (cWd Y S).set q (a, .inl (Y.2.2.2.2.1, cn S a, .inr (.inr (.inr (.inr (va_up (cO S a) k (some v))))))) = cWd Y (cSO S a k (some v)) :=
    cWd_set hD ha hq0 rfl ((cE_O (S := cSO S a k (some v)) hK').trans (by rw [show cO (cSO S a k (some v)) a = upR (cO S a) k (some v) from mU_s]; rfl)) (fun b hb => cE_eq rfl (fun _ => rfl) (fun _ => rfl) (fun _ => rfl) rfl rfl rfl (mU_n hb))
  rw [hs] at hP1 hD1
  exact kk H1 locs1 ls hP1 hD1 hS1 hlv
end CGM
