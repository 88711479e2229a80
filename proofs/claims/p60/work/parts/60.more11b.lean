/-! the class: null given back; ints below 0 -/
section CGQ
variable {p : Program} {l : Launch} {e : Env} {R : Room} {s : State} {m : MethodId} {args : Array Value} {below : List Frame} {meth : Method} {c : Code} {cc : ByteArray} {nL : Nat} {ret : Option FieldType} {A : Nat → Prop} {D : va_G} {Y : cY} {tp dp : Nat} {own : String} {Q : State → Prop} {cells slots : Nat}
variable {pc : Nat} {lv lv' : List (Nat × Value)} {st : List Value} {S : cS}
theorem cg_mmax (C : cC p s m args meth c cc nL ret A D Y tp dp own) {idx : Nat} {x y : Int32} (h1 : Cond.methodLink own idx Lib.Math.max.name ∈ cWs) (h2 : Cond.static Lib.Math.max.name ∈ cWs) (h3 : Cond.initialized "java/lang/Math" ∈ cWs) (h4 : Cond.code Lib.Math.max.name Lib.Math.max.code 2 (some .int) ∈ cWs) (hframes : 1 ≤ R.frames) (hlocals : (st.map fun v => v.category).sum + 13 ≤ R.locals) (hc : cells ≤ R.cells) (hs : slots ≤ R.slots) (d : decode cc pc = .ok (.invokestatic idx, 3)) (kk : cG p l e R s m args below meth c A D Y nL Q cells slots (pc + 3) lv (.int (if x < y then y else x) :: st) S) : cG p l e R s m args below meth c A D Y nL Q cells slots pc lv (.int y :: .int x :: st) S := by
  intro H locs ls hP hD hS hlv
  obtain ⟨hx, hb, hml, hown, hts, hK, hlo, hr, hA, hE⟩ := C
  exact va_mmax hx hb (hml.trans hlv.1.symm) hown (hts _ h1) (hts _ h2) (hts _ h3) (hts _ h4) hframes hlocals hc hs d (kk H locs ls hP hD hS hlv)
theorem cg_mmin (C : cC p s m args meth c cc nL ret A D Y tp dp own) {idx : Nat} {x y : Int32} (h1 : Cond.methodLink own idx Lib.Math.min.name ∈ cWs) (h2 : Cond.static Lib.Math.min.name ∈ cWs) (h3 : Cond.initialized "java/lang/Math" ∈ cWs) (h4 : Cond.code Lib.Math.min.name Lib.Math.min.code 2 (some .int) ∈ cWs) (hframes : 1 ≤ R.frames) (hlocals : (st.map fun v => v.category).sum + 13 ≤ R.locals) (hc : cells ≤ R.cells) (hs : slots ≤ R.slots) (d : decode cc pc = .ok (.invokestatic idx, 3)) (kk : cG p l e R s m args below meth c A D Y nL Q cells slots (pc + 3) lv (.int (if y < x then y else x) :: st) S) : cG p l e R s m args below meth c A D Y nL Q cells slots pc lv (.int y :: .int x :: st) S := by
  intro H locs ls hP hD hS hlv
  obtain ⟨hx, hb, hml, hown, hts, hK, hlo, hr, hA, hE⟩ := C
  exact va_mmin hx hb (hml.trans hlv.1.symm) hown (hts _ h1) (hts _ h2) (hts _ h3) (hts _ h4) hframes hlocals hc hs d (kk H locs ls hP hD hS hlv)

theorem cg_aloadN_n (C : cC p s m args meth c cc nL ret A D Y tp dp own) {j : Fin 4} {i : Nat} (hi : (j : Nat) = i) (k : Nat) (h : lv[k]? = some (i, .null)) (d : decode cc pc = .ok (.aload_n j, 1)) (kk : cG p l e R s m args below meth c A D Y nL Q cells slots (pc + 1) lv (.null :: st) S) : cG p l e R s m args below meth c A D Y nL Q cells slots pc lv st S := fun H locs ls hP hD hS hl => lv_aload_nN C.1 C.2.1 d hi (lv_at hl k h) (kk H locs ls hP hD hS hl)
theorem cg_aloadN (C : cC p s m args meth c cc nL ret A D Y tp dp own) {i : Nat} (k : Nat) (h : lv[k]? = some (i, .null)) (d : decode cc pc = .ok (.aload i, 2)) (kk : cG p l e R s m args below meth c A D Y nL Q cells slots (pc + 2) lv (.null :: st) S) : cG p l e R s m args below meth c A D Y nL Q cells slots pc lv st S := fun H locs ls hP hD hS hl => lv_aloadN C.1 C.2.1 d (lv_at hl k h) (kk H locs ls hP hD hS hl)
theorem cg_astoreN_n (C : cC p s m args meth c cc nL ret A D Y tp dp own) {j : Fin 4} {i : Nat} (hi : (j : Nat) = i) (hn : i < nL) (h : (i, Value.null) :: lv.filter (fun q => !(q.1 == i) && !(q.1 + 1 == i && q.2.category == 2)) = lv') (d : decode cc pc = .ok (.astore_n j, 1)) (kk : cG p l e R s m args below meth c A D Y nL Q cells slots (pc + 1) lv' st S) : cG p l e R s m args below meth c A D Y nL Q cells slots pc lv (.null :: st) S := fun H locs ls hP hD hS hl => lv_astore_nN C.1 C.2.1 d hi hl hn h (fun ls' hl' => kk H locs ls' hP hD hS hl')
theorem cg_astoreN (C : cC p s m args meth c cc nL ret A D Y tp dp own) {i : Nat} (hn : i < nL) (h : (i, Value.null) :: lv.filter (fun q => !(q.1 == i) && !(q.1 + 1 == i && q.2.category == 2)) = lv') (d : decode cc pc = .ok (.astore i, 2)) (kk : cG p l e R s m args below meth c A D Y nL Q cells slots (pc + 2) lv' st S) : cG p l e R s m args below meth c A D Y nL Q cells slots pc lv (.null :: st) S := fun H locs ls hP hD hS hl => lv_astoreN C.1 C.2.1 d hl hn h (fun ls' hl' => kk H locs ls' hP hD hS hl')

abbrev cQq (post : Option Nat → cS → Prop) : (D : va_G) → (Y : cY) → (A : Nat → Prop) → Array Value → State → Outcome → State → Prop := fun D Y A => va_Qq post (cB D Y A) A
theorem cg_anret (C : cC p s m args meth c cc nL ret A D Y tp dp own) {rt : FieldType} {post : Option Nat → cS → Prop} {mc ms : Nat} (hrt : ret = some rt) (hrt2 : (∃ n, rt = .object n) ∨ ∃ t, rt = .array t) (h : post none S) (d : decode cc pc = .ok (.areturn, 1)) (hc : cells ≤ mc) (hs : slots ≤ ms) : cG p l e R s m args below meth c A D Y nL (MQ below (cQq post D Y A) args s mc ms A) cells slots pc lv [.null] S := by
  intro H locs ls hP hD hS hlv
  obtain ⟨hx, hb, hml, hown, hts, hK, hlo, hr, hA, hE⟩ := C
  exact W.widen hc hs (W.aret hx hb (hr.trans hrt) hrt2 (Or.inl rfl) (fun t ht hW => ⟨⟨none, S, rfl, h, by rw [ht]; exact hP, va_K.moved hW.alike hK, hD⟩, hS.F ht⟩) hS.2.2 d hlo)
theorem cg_callsq (C : cC p s m args meth c cc nL ret A D Y tp dp own) {y : MethodName} {cc' : ByteArray} {nL' idx n fr mc ms lo F M N L : Nat} {ret' : Option FieldType} {As : List Value} {stk : List Value} {post : Option Nat → cS → Prop} (hM : cMet (cQq post) l y cc' nL' ret' fr mc ms lo (As) S dp) (hc : cCal true own idx y cc' nL' ret' n) (hn : As.length = n) (hR : fr + 1 ≤ F ∧ 8 + (nL' + 11) + lo ≤ L) (hm : cells + mc ≤ M ∧ slots + ms ≤ N) (hst : stk = As.reverse ++ st) (hsz : (st.map fun v => v.category).sum ≤ 8) (d : decode cc pc = .ok (.invokestatic idx, 3)) (kk : ∀ (r : Option Nat) (S' : cS), post r S' → cG p l e (cRm F M N L) s m args below meth c A D Y nL Q (cells + mc) (slots + ms) (pc + 3) lv (va_rf r :: st) S') : cG p l e (cRm F M N L) s m args below meth c A D Y nL Q cells slots pc lv stk S := by
  intro H locs ls hP hD hS hlv
  have hp := c_pre (av := As) C hP hD hS
  obtain ⟨hx, hb, hml, hown, hts, hK, hlo, hr, hA, hE⟩ := C
  have hF := c_free hD hS hA
  obtain ⟨h1, h2, h3, h4, h5, h6⟩ := hc
  have hb1 : CallB (cRm F M N L) s args own idx y cc' nL' ret' (Cond.code y cc' nL' ret' :: cWs) (cRm fr mc ms lo) mc ms n := callB_of n hts (ccal_good h5) rfl rfl rfl (hts _ h3) (hts _ h2) ⟨h1.1, h1.2, h6⟩ hR
  refine va_callq (va_runS (As := As) (rest := st) ⟨hx, hb, hml, hown, hts⟩ (hM D Y tp H.size) ⟨hb1, hts _ h4⟩ hp rfl hn hlv.1 hst (lv_room hsz) d hm) hS (fun q _ h => hF q h) hF (fun r u t H1 locs1 ht hvm hw hB hz1 hk1 hS1 => ?_)
  obtain ⟨hP1, hK1, hD1⟩ := hB
  rw [ht] at hP1
  exact kk r u hw H1 locs1 ls hP1 (hD1.weaken (fun k q _ h => hF q.1 h)) hS1 hlv
theorem cg_callq (C : cC p s m args meth c cc nL ret A D Y tp dp own) {y : MethodName} {cc' : ByteArray} {nL' idx n fr mc ms lo F M N L : Nat} {a k NN : Nat} {T : u_T} {ret' : Option FieldType} {As : List Value} {stk : List Value} {post : Option Nat → cS → Prop} (hM : cMet (cQq post) l y cc' nL' ret' fr mc ms lo (.ref a :: As) S dp) (hc : cCal false own idx y cc' nL' ret' n) (ha : a ∈ cL S) (hK' : cK S a = k) (hk : k < 13) (hcl : vwCl[kC k]? = some (y.cls, T, NN)) (hn : As.length = n) (hR : fr + 1 ≤ F ∧ 8 + (nL' + 11) + lo ≤ L) (hm : cells + mc ≤ M ∧ slots + ms ≤ N) (hst : stk = As.reverse ++ .ref a :: st) (hsz : (st.map fun v => v.category).sum ≤ 8) (d : decode cc pc = .ok (.invokevirtual idx, 3)) (kk : ∀ (r : Option Nat) (S' : cS), post r S' → cG p l e (cRm F M N L) s m args below meth c A D Y nL Q (cells + mc) (slots + ms) (pc + 3) lv (va_rf r :: st) S') : cG p l e (cRm F M N L) s m args below meth c A D Y nL Q cells slots pc lv stk S := by
  intro H locs ls hP hD hS hlv
  have hp := c_pre (av := .ref a :: As) C hP hD hS
  obtain ⟨hx, hb, hml, hown, hts, hK, hlo, hr, hA, hE⟩ := C
  have hF := c_free hD hS hA
  obtain ⟨h1, h2, h3, h4, h5, h6⟩ := hc
  have hb1 : CallB (cRm F M N L) s args own idx y cc' nL' ret' (Cond.code y cc' nL' ret' :: cWs) (cRm fr mc ms lo) mc ms n := callB_of n hts (ccal_good h5) rfl rfl rfl (hts _ h3) (hts _ h2) ⟨h1.1, h1.2, h6⟩ hR
  refine va_callq (va_runV (As := As) (rest := st) (C := y.cls) ⟨hx, hb, hml, hown, hts⟩ (hM D Y tp H.size) ⟨hb1, hts _ h4.1, hts _ h4.2⟩ ⟨hp.1, c_recv hK hP ha hK' hk hcl, hp.2⟩ rfl hn hlv.1 hst (lv_room hsz) d hm) hS (fun q _ h => hF q h) hF (fun r u t H1 locs1 ht hvm hw hB hz1 hk1 hS1 => ?_)
  obtain ⟨hP1, hK1, hD1⟩ := hB
  rw [ht] at hP1
  exact kk r u hw H1 locs1 ls hP1 (hD1.weaken (fun k q _ h => hF q.1 h)) hS1 hlv
theorem cneg_i {x : Int32} (h : x < 0) : x.toInt < 0 := by
  have := Int32.lt_iff_toInt_lt.mp h
  simpa using this
theorem cneg_lt {x : Int32} {k : Nat} (h : x < 0) (hk : k < 2 ^ 31) : x < nI k := by
  rw [Int32.lt_iff_toInt_lt, nI_toInt hk]; have := cneg_i h; omega
theorem cneg_nle {x : Int32} {k : Nat} (h : x < 0) (hk : k < 2 ^ 31) : ¬ nI k ≤ x := by
  rw [Int32.le_iff_toInt_le, nI_toInt hk]; have := cneg_i h; omega
theorem cneg_ngt {x : Int32} {k : Nat} (h : x < 0) (hk : k < 2 ^ 31) : ¬ nI k < x := by
  rw [Int32.lt_iff_toInt_lt, nI_toInt hk]; have := cneg_i h; omega
theorem cneg_le {x : Int32} {k : Nat} (h : x < 0) (hk : k < 2 ^ 31) : x ≤ nI k := by
  rw [Int32.le_iff_toInt_le, nI_toInt hk]; have := cneg_i h; omega
theorem cneg_ne {x : Int32} {k : Nat} (h : x < 0) (hk : k < 2 ^ 31) : ¬ x = nI k := fun q => cneg_nle h hk (by rw [q]; exact Int32.le_refl _)
theorem cneg0_lt {x : Int32} (h : x < 0) : x < 0 := h
theorem cneg0_nle {x : Int32} (h : x < 0) : ¬ 0 ≤ x := by have := cneg_nle (k := 0) h (by decide); rw [nI_0] at this; exact this
theorem cneg0_ngt {x : Int32} (h : x < 0) : ¬ 0 < x := by have := cneg_ngt (k := 0) h (by decide); rw [nI_0] at this; exact this
theorem cneg0_le {x : Int32} (h : x < 0) : x ≤ 0 := by have := cneg_le (k := 0) h (by decide); rw [nI_0] at this; exact this
theorem cneg0_ne {x : Int32} (h : x < 0) : ¬ x = 0 := by have := cneg_ne (k := 0) h (by decide); rw [nI_0] at this; exact this
/-- an int is below 0, or a natural number -/
theorem c_sgn (x : Int32) : x < 0 ∨ ∃ n : Nat, n ≤ 2147483647 ∧ x = nI n := by
  by_cases h : x < 0
  · exact Or.inl h
  · obtain ⟨j, h1, h2⟩ := nI_of h
    exact Or.inr ⟨j, by omega, h2⟩
end CGQ

