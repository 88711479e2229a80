/-! the class: a method as a predicate of what it returns with: rules -/
theorem c_opt (o : Option Nat) : o = none ∨ ∃ b, o = some b := by
  cases o with
  | none => exact Or.inl rfl
  | some b => exact Or.inr ⟨b, rfl⟩
/-- an object or a row of that kind lies in the pool -/
def cA (S : cS) (a k : Nat) : Prop := a ∈ cL S ∧ cK S a = k
/-- a place of a row of that kind -/
def cX (S : cS) (a k : Nat) (i : Int32) : Prop := cA S a k ∧ cn S a < 2 ^ 31 ∧ vp_in i (cn S a)
/-- an object that may lie in a list -/
def cOb (S : cS) (a : Nat) : Prop := a ∈ cL S ∧ (cK S a = 0 ∨ cK S a = 2 ∨ cK S a = 4 ∨ cK S a = 5 ∨ cK S a = 6 ∨ cK S a = 10)
/-- n places from sp of the one row may be copied to dp of the other -/
def cCp (S : cS) (k a : Nat) (sp : Int32) (b : Nat) (dp n : Int32) : Prop := cA S a k ∧ cA S b k ∧ ¬ sp < 0 ∧ ¬ dp < 0 ∧ ¬ n < 0 ∧ sp.toNatClampNeg + n.toNatClampNeg ≤ cn S a ∧ dp.toNatClampNeg + n.toNatClampNeg ≤ cn S b ∧ (k = 13 → ∀ i, i < n.toNatClampNeg → fits .byte (.int (cI S a (sp.toNatClampNeg + i))) = true) ∧ (k = 17 → ∃ kk : Nat, (kk = 0 ∨ kk = 2 ∨ kk = 4 ∨ kk = 5 ∨ kk = 6 ∨ kk = 10) ∧ ∀ i, i < n.toNatClampNeg → ∀ y, cO S a (sp.toNatClampNeg + i) = some y → y ∈ cL S ∧ cK S y = kk)
def cCpyI (S : cS) (a sp b dp n : Nat) : cS := (cL S, cK S, ci S, cr S, cw S, cn S, upR (cI S) b (va_cpy (cI S a) (cI S b) sp dp n), cJ S, cO S)
def cCpyJ (S : cS) (a sp b dp n : Nat) : cS := (cL S, cK S, ci S, cr S, cw S, cn S, cI S, upR (cJ S) b (va_cpy (cJ S a) (cJ S b) sp dp n), cO S)
def cCpyO (S : cS) (a sp b dp n : Nat) : cS := (cL S, cK S, ci S, cr S, cw S, cn S, cI S, cJ S, upR (cO S) b (va_cpy (cO S a) (cO S b) sp dp n))
theorem vp_nI {i : Int32} {n : Nat} (h : vp_in i n) (hn : n < 2 ^ 31) : i = nI i.toNatClampNeg ∧ i.toNatClampNeg < n := by
  have h1 : ¬ i < 0 := fun z => h (Or.inl z)
  have h2 : i.toNatClampNeg < n := Nat.not_le.mp fun z => h (Or.inr z)
  refine ⟨?_, h2⟩
  apply Int32.toInt_inj.mp
  rw [nI_toInt (Nat.lt_trans h2 hn)]
  have h3 : ¬ i.toInt < 0 := fun z => h1 (Int32.lt_iff_toInt_lt.mpr z)
  have h4 : i.toNatClampNeg = i.toInt.toNat := rfl
  omega
theorem nfw_ac : nativeFrameWords "java/lang/System" "arraycopy" 5 = 7 := by decide +kernel
section KW
variable {p : Program} {l : Launch} {e : Env} {R : Room} {s : State} {m : MethodId} {args : Array Value} {below : List Frame} {meth : Method} {c : Code} {cc : ByteArray} {nL : Nat} {ret : Option FieldType} {A : Nat → Prop} {D : va_G} {Y : cY} {tp dp : Nat} {own : String} {Q : State → Prop} {cells slots : Nat}
variable {pc : Nat} {lv lv' : List (Nat × Value)} {st st' : List Value} {S : cS}
theorem cg_nmI {x : Int32} (k : ∀ y, y = x → cG p l e R s m args below meth c A D Y nL Q cells slots pc lv (.int y :: st) S) : cG p l e R s m args below meth c A D Y nL Q cells slots pc lv (.int x :: st) S := k x rfl
theorem cg_nmL {x : Int64} (k : ∀ y, y = x → cG p l e R s m args below meth c A D Y nL Q cells slots pc lv (.long y :: st) S) : cG p l e R s m args below meth c A D Y nL Q cells slots pc lv (.long x :: st) S := k x rfl
theorem cg_st (h : st = st') (k : cG p l e R s m args below meth c A D Y nL Q cells slots pc lv st' S) : cG p l e R s m args below meth c A D Y nL Q cells slots pc lv st S := by rw [h]; exact k
theorem cg_ialoadR (C : cC p s m args meth c cc nL ret A D Y tp dp own) {a : Nat} {i : Int32} (h : cX S a 14 i) (d : decode cc pc = .ok (.iaload, 1)) (kk : cG p l e R s m args below meth c A D Y nL Q cells slots (pc + 1) lv (.int (cI S a i.toNatClampNeg) :: st) S) : cG p l e R s m args below meth c A D Y nL Q cells slots pc lv (.int i :: .ref a :: st) S := by
  obtain ⟨⟨h1, h2⟩, h3, h4⟩ := h
  obtain ⟨e, hlt⟩ := vp_nI h4 h3
  have z := cg_iaload C i.toNatClampNeg h1 h2 hlt h3 d kk
  rw [← e] at z
  exact z
theorem cg_laloadR (C : cC p s m args meth c cc nL ret A D Y tp dp own) {a : Nat} {i : Int32} (h : cX S a 15 i) (d : decode cc pc = .ok (.laload, 1)) (kk : cG p l e R s m args below meth c A D Y nL Q cells slots (pc + 1) lv (.long (cJ S a i.toNatClampNeg) :: st) S) : cG p l e R s m args below meth c A D Y nL Q cells slots pc lv (.int i :: .ref a :: st) S := by
  obtain ⟨⟨h1, h2⟩, h3, h4⟩ := h
  obtain ⟨e, hlt⟩ := vp_nI h4 h3
  have z := cg_laload C i.toNatClampNeg h1 h2 hlt h3 d kk
  rw [← e] at z
  exact z
theorem cg_zaloadR (C : cC p s m args meth c cc nL ret A D Y tp dp own) {a : Nat} {i : Int32} (h : cX S a 16 i) (d : decode cc pc = .ok (.baload, 1)) (kk : cG p l e R s m args below meth c A D Y nL Q cells slots (pc + 1) lv (.int (cI S a i.toNatClampNeg) :: st) S) : cG p l e R s m args below meth c A D Y nL Q cells slots pc lv (.int i :: .ref a :: st) S := by
  obtain ⟨⟨h1, h2⟩, h3, h4⟩ := h
  obtain ⟨e, hlt⟩ := vp_nI h4 h3
  have z := cg_zaload C i.toNatClampNeg h1 h2 hlt h3 d kk
  rw [← e] at z
  exact z
theorem cg_baloadR (C : cC p s m args meth c cc nL ret A D Y tp dp own) {a : Nat} {i : Int32} (h : cX S a 13 i) (d : decode cc pc = .ok (.baload, 1)) (kk : cG p l e R s m args below meth c A D Y nL Q cells slots (pc + 1) lv (.int (cI S a i.toNatClampNeg) :: st) S) : cG p l e R s m args below meth c A D Y nL Q cells slots pc lv (.int i :: .ref a :: st) S := by
  obtain ⟨⟨h1, h2⟩, h3, h4⟩ := h
  obtain ⟨e, hlt⟩ := vp_nI h4 h3
  have z := cg_baload C i.toNatClampNeg h1 h2 hlt h3 d kk
  rw [← e] at z
  exact z
theorem cg_aaloadR (C : cC p s m args meth c cc nL ret A D Y tp dp own) {a b : Nat} {i : Int32} (h : cX S a 17 i) (hb : cO S a i.toNatClampNeg = some b) (d : decode cc pc = .ok (.aaload, 1)) (kk : cG p l e R s m args below meth c A D Y nL Q cells slots (pc + 1) lv (.ref b :: st) S) : cG p l e R s m args below meth c A D Y nL Q cells slots pc lv (.int i :: .ref a :: st) S := by
  obtain ⟨⟨h1, h2⟩, h3, h4⟩ := h
  obtain ⟨e, hlt⟩ := vp_nI h4 h3
  have z := cg_aaload C i.toNatClampNeg h1 h2 hlt h3 d (lv := lv) (st := st) (by rw [hb]; exact kk)
  rw [← e] at z
  exact z
theorem cg_aaload2R (C : cC p s m args meth c cc nL ret A D Y tp dp own) {a b : Nat} {i : Int32} (h : cX S a 18 i) (hbb : cO S a i.toNatClampNeg = some b) (d : decode cc pc = .ok (.aaload, 1)) (kk : cG p l e R s m args below meth c A D Y nL Q cells slots (pc + 1) lv (.ref b :: st) S) : cG p l e R s m args below meth c A D Y nL Q cells slots pc lv (.int i :: .ref a :: st) S := by
  obtain ⟨⟨h1, h2⟩, h3, h4⟩ := h
  intro H locs ls hP hD hS hlv
  obtain ⟨hx, hb, hml, hown, hts, hK, hlo, hr, hA, hE⟩ := C
  obtain ⟨q, hq⟩ := cWd_at (Y := Y) h1
  rw [cE_A h2] at hq
  have hlt : i.toNatClampNeg < cn S a := Nat.not_le.mp fun q => h4 (Or.inr q)
  refine W.aald (v := va_rf (cO S a i.toNatClampNeg)) (ty := .array .int) hx hb (hP q _ hq) ((hK.2 5 (Y.2.2.2.2.2, .array .int) rfl).1 (cn S a) (fun j => va_rf (cO S a j))) rfl (fun q => by cases q) (by show ¬ (i < 0 ∨ (arrV _ _ _).slots.size ≤ _); rw [arrV_size]; exact h4) (by show (arrV _ _ _).slots[_]? = _; rw [arrV_read _ _ hlt]) rfl rfl d ?_
  rw [hbb]
  exact kk H locs ls hP hD hS hlv
theorem cg_iastoreR (C : cC p s m args meth c cc nL ret A D Y tp dp own) {a : Nat} {i : Int32} {x : Int32} (h : cX S a 14 i) (d : decode cc pc = .ok (.iastore, 1)) (kk : cG p l e R s m args below meth c A D Y nL Q cells slots (pc + 1) lv st (cSI S a i.toNatClampNeg x)) : cG p l e R s m args below meth c A D Y nL Q cells slots pc lv (.int x :: .int i :: .ref a :: st) S := by
  obtain ⟨⟨h1, h2⟩, h3, h4⟩ := h
  obtain ⟨e, hlt⟩ := vp_nI h4 h3
  have z := cg_iastore C i.toNatClampNeg h1 h2 hlt h3 d kk
  rw [← e] at z
  exact z
theorem cg_lastoreR (C : cC p s m args meth c cc nL ret A D Y tp dp own) {a : Nat} {i : Int32} {x : Int64} (h : cX S a 15 i) (d : decode cc pc = .ok (.lastore, 1)) (kk : cG p l e R s m args below meth c A D Y nL Q cells slots (pc + 1) lv st (cSJ S a i.toNatClampNeg x)) : cG p l e R s m args below meth c A D Y nL Q cells slots pc lv (.long x :: .int i :: .ref a :: st) S := by
  obtain ⟨⟨h1, h2⟩, h3, h4⟩ := h
  obtain ⟨e, hlt⟩ := vp_nI h4 h3
  have z := cg_lastore C i.toNatClampNeg h1 h2 hlt h3 d kk
  rw [← e] at z
  exact z
theorem cg_zastoreR (C : cC p s m args meth c cc nL ret A D Y tp dp own) {a : Nat} {i : Int32} {x : Int32} (h : cX S a 16 i) (hx2 : vp_nar .boolean x = x) (d : decode cc pc = .ok (.bastore, 1)) (kk : cG p l e R s m args below meth c A D Y nL Q cells slots (pc + 1) lv st (cSI S a i.toNatClampNeg x)) : cG p l e R s m args below meth c A D Y nL Q cells slots pc lv (.int x :: .int i :: .ref a :: st) S := by
  obtain ⟨⟨h1, h2⟩, h3, h4⟩ := h
  obtain ⟨e, hlt⟩ := vp_nI h4 h3
  have z := cg_zastore C i.toNatClampNeg h1 h2 hlt h3 hx2 d kk
  rw [← e] at z
  exact z
theorem cg_bastoreR (C : cC p s m args meth c cc nL ret A D Y tp dp own) {a : Nat} {i : Int32} {x : Int32} (h : cX S a 13 i) (hx2 : vp_nar .byte x = x) (d : decode cc pc = .ok (.bastore, 1)) (kk : cG p l e R s m args below meth c A D Y nL Q cells slots (pc + 1) lv st (cSI S a i.toNatClampNeg x)) : cG p l e R s m args below meth c A D Y nL Q cells slots pc lv (.int x :: .int i :: .ref a :: st) S := by
  obtain ⟨⟨h1, h2⟩, h3, h4⟩ := h
  obtain ⟨e, hlt⟩ := vp_nI h4 h3
  have z := cg_bastore C i.toNatClampNeg h1 h2 hlt h3 hx2 d kk
  rw [← e] at z
  exact z
theorem cg_aastoreR (C : cC p s m args meth c cc nL ret A D Y tp dp own) {a v : Nat} {i : Int32} (h : cX S a 17 i) (hv : cOb S v) (d : decode cc pc = .ok (.aastore, 1)) (kk : cG p l e R s m args below meth c A D Y nL Q cells slots (pc + 1) lv st (cSO S a i.toNatClampNeg (some v))) : cG p l e R s m args below meth c A D Y nL Q cells slots pc lv (.ref v :: .int i :: .ref a :: st) S := by
  obtain ⟨⟨h1, h2⟩, h3, h4⟩ := h
  obtain ⟨e, hlt⟩ := vp_nI h4 h3
  obtain ⟨v1, v2⟩ := hv
  rw [e]
  rcases v2 with v2 | v2 | v2 | v2 | v2 | v2
  all_goals exact cg_aastore C i.toNatClampNeg h1 h2 hlt h3 v1 v2 (by decide) rfl (by decide) d kk
theorem cg_aastoreN (C : cC p s m args meth c cc nL ret A D Y tp dp own) {a : Nat} {i : Int32} (h : cX S a 17 i) (d : decode cc pc = .ok (.aastore, 1)) (kk : cG p l e R s m args below meth c A D Y nL Q cells slots (pc + 1) lv st (cSO S a i.toNatClampNeg none)) : cG p l e R s m args below meth c A D Y nL Q cells slots pc lv (.null :: .int i :: .ref a :: st) S := by
  obtain ⟨⟨h1, h2⟩, h3, h4⟩ := h
  intro H locs ls hP hD hS hlv
  obtain ⟨hx, hb, hml, hown, hts, hK, hlo, hr, hA, hE⟩ := C
  obtain ⟨q, hq0⟩ := cWd_at (Y := Y) h1
  have hq := hq0
  rw [cE_O h2] at hq
  refine va_astqN hx hb hK hP hD hS q 4 hq rfl h4 d (fun H1 locs1 hP1 hD1 hS1 => ?_)
  have hs : (cWd Y S).set q (a, .inl (Y.2.2.2.2.1, cn S a, .inr (.inr (.inr (.inr (va_up (cO S a) i.toNatClampNeg none)))))) = cWd Y (cSO S a i.toNatClampNeg none) :=
    cWd_set hD h1 hq0 rfl ((cE_O (S := cSO S a i.toNatClampNeg none) h2).trans (by rw [show cO (cSO S a i.toNatClampNeg none) a = upR (cO S a) i.toNatClampNeg none from mU_s]; rfl)) (fun b hb => cE_eq rfl (fun _ => rfl) (fun _ => rfl) (fun _ => rfl) rfl rfl rfl (mU_n hb))
  rw [hs] at hP1 hD1
  exact kk H1 locs1 ls hP1 hD1 hS1 hlv
theorem cg_asret (C : cC p s m args meth c cc nL ret A D Y tp dp own) {x : Nat} {rt : FieldType} {post : Option Nat → cS → Prop} {mc ms : Nat} (hrt : ret = some rt) (hrt2 : (∃ n, rt = .object n) ∨ ∃ t, rt = .array t) (h : post (some x) S) (d : decode cc pc = .ok (.areturn, 1)) (hc : cells ≤ mc) (hs : slots ≤ ms) : cG p l e R s m args below meth c A D Y nL (MQ below (cQq post D Y A) args s mc ms A) cells slots pc lv [.ref x] S := by
  intro H locs ls hP hD hS hlv
  obtain ⟨hx, hb, hml, hown, hts, hK, hlo, hr, hA, hE⟩ := C
  exact W.widen hc hs (W.aret hx hb (hr.trans hrt) hrt2 (Or.inr ⟨x, rfl⟩) (fun t ht hW => ⟨⟨some x, S, rfl, h, by rw [ht]; exact hP, va_K.moved hW.alike hK, hD⟩, hS.F ht⟩) hS.2.2 d hlo)
theorem cg_ccast (C : cC p s m args meth c cc nL ret A D Y tp dp own) {a k idx N : Nat} {C' : String} {T : u_T} (ha : a ∈ cL S) (hK' : cK S a = k) (hk : k < 13) (hcl : vwCl[kC k]? = some (C', T, N)) (hl : Cond.classLink own idx C' ∈ cWs) (d : decode cc pc = .ok (.checkcast idx, 3)) (kk : cG p l e R s m args below meth c A D Y nL Q cells slots (pc + 3) lv (.ref a :: st) S) : cG p l e R s m args below meth c A D Y nL Q cells slots pc lv (.ref a :: st) S := by
  intro H locs ls hP hD hS hlv
  obtain ⟨hx, hb, hml, hown, hts, hK, hlo, hr, hA, hE⟩ := C
  exact va_castE hx hb hown (hts _ hl) (c_recv hK hP ha hK' hk hcl) d (kk H locs ls hP hD hS hlv)
theorem cg_castN (C : cC p s m args meth c cc nL ret A D Y tp dp own) {idx : Nat} (d : decode cc pc = .ok (.checkcast idx, 3)) (kk : cG p l e R s m args below meth c A D Y nL Q cells slots (pc + 3) lv (.null :: st) S) : cG p l e R s m args below meth c A D Y nL Q cells slots pc lv (.null :: st) S := fun H locs ls hP hD hS hlv => lv_castN C.1 C.2.1 d (kk H locs ls hP hD hS hlv)
theorem cg_iushr (C : cC p s m args meth c cc nL ret A D Y tp dp own) {x y : Int32} (d : decode cc pc = .ok (.iushr, 1)) (kk : cG p l e R s m args below meth c A D Y nL Q cells slots (pc + 1) lv (.int (x.toUInt32 >>> (y.toUInt32 &&& Int32.toUInt32 31)).toInt32 :: st) S) : cG p l e R s m args below meth c A D Y nL Q cells slots pc lv (.int y :: .int x :: st) S := fun H locs ls hP hD hS hl => lv_iushr C.1 C.2.1 d rfl (kk H locs ls hP hD hS hl)
theorem cg_ldcw (C : cC p s m args meth c cc nL ret A D Y tp dp own) {idx : Nat} {x : Int32} (h : Cond.constant own idx x ∈ cWs) (d : decode cc pc = .ok (.ldc_w idx, 3)) (kk : cG p l e R s m args below meth c A D Y nL Q cells slots (pc + 3) lv (.int x :: st) S) : cG p l e R s m args below meth c A D Y nL Q cells slots pc lv st S := fun H locs ls hP hD hS hl => lv_ldcw C.1 C.2.1 C.2.2.2.1 (C.2.2.2.2.1 _ h) d (kk H locs ls hP hD hS hl)
theorem cg_powerR (C : cC p s m args meth c cc nL ret A D Y tp dp own) {i : Int32} (h : vp_in i 12) (d : decode cc pc = .ok (.laload, 1)) (kk : cG p l e R s m args below meth c A D Y nL Q cells slots (pc + 1) lv (.long (lN (37 ^ i.toNatClampNeg)) :: st) S) : cG p l e R s m args below meth c A D Y nL Q cells slots pc lv (.int i :: .ref tp :: st) S := by
  obtain ⟨e, hlt⟩ := vp_nI h (by decide)
  have z := cg_power C i.toNatClampNeg hlt d kk
  rw [← e] at z
  exact z
theorem ac_n : Cond.native arraycopyName ∈ cWs ∧ Cond.static arraycopyName ∈ cWs ∧ Cond.initialized "java/lang/System" ∈ cWs := ⟨cWs_i1 74 rfl, cWs_i1 75 rfl, cWs_i1 76 rfl⟩
theorem cg_copy14 (C : cC p s m args meth c cc nL ret A D Y tp dp own) {a b idx : Nat} {sp dq n : Int32} (h : cCp S 14 a sp b dq n) (hl : Cond.methodLink own idx arraycopyName ∈ cWs) (hF : 1 ≤ R.frames) (hL : (st.map fun v => v.category).sum + 18 ≤ R.locals) (d : decode cc pc = .ok (.invokestatic idx, 3)) (kk : cG p l e R s m args below meth c A D Y nL Q cells slots (pc + 3) lv st (cCpyI S a sp.toNatClampNeg b dq.toNatClampNeg n.toNatClampNeg)) : cG p l e R s m args below meth c A D Y nL Q cells slots pc lv (.int n :: .int dq :: .ref b :: .int sp :: .ref a :: st) S := by
  obtain ⟨⟨a1, a2⟩, ⟨b1, b2⟩, h3, h4, h5, h6, h7, h8, h9⟩ := h
  intro H locs ls hP hD hS hlv
  obtain ⟨hx, hb, hml, hown, hts, hK, hlo, hr, hA, hE⟩ := C
  obtain ⟨q0, e0⟩ := cWd_at (Y := Y) a1
  obtain ⟨q1, e1⟩ := cWd_at (Y := Y) b1
  have f1 := e1
  rw [cE_I a2] at e0
  rw [cE_I b2] at f1
  refine va_copyi hx hb (hml.trans hlv.1.symm) hown (hts _ hl) (hts _ ac_n.1) (hts _ ac_n.2.1) (hts _ ac_n.2.2) hK hP hD hS q0 q1 1 1 e0 f1 rfl rfl rfl h3 h4 h5 h6 h7 (fun _ _ => rfl) hF (by rw [nfw_ac]; exact hL) d (fun H1 locs1 hP1 hD1 hS1 => ?_)
  have hs : (cWd Y S).set q1 (b, .inl (Y.2.1, cn S b, .inl (va_cpy (cI S a) (cI S b) sp.toNatClampNeg dq.toNatClampNeg n.toNatClampNeg))) = cWd Y (cCpyI S a sp.toNatClampNeg b dq.toNatClampNeg n.toNatClampNeg) :=
    cWd_set hD b1 e1 rfl ((cE_I (S := cCpyI S a sp.toNatClampNeg b dq.toNatClampNeg n.toNatClampNeg) b2).trans (by rw [show cI (cCpyI S a sp.toNatClampNeg b dq.toNatClampNeg n.toNatClampNeg) b = va_cpy (cI S a) (cI S b) sp.toNatClampNeg dq.toNatClampNeg n.toNatClampNeg from upR_s]; rfl)) (fun b hb => cE_eq rfl (fun _ => rfl) (fun _ => rfl) (fun _ => rfl) rfl (upR_n hb) rfl rfl)
  rw [hs] at hP1 hD1
  exact kk H1 locs1 ls hP1 hD1 hS1 hlv
theorem cg_copy13 (C : cC p s m args meth c cc nL ret A D Y tp dp own) {a b idx : Nat} {sp dq n : Int32} (h : cCp S 13 a sp b dq n) (hl : Cond.methodLink own idx arraycopyName ∈ cWs) (hF : 1 ≤ R.frames) (hL : (st.map fun v => v.category).sum + 18 ≤ R.locals) (d : decode cc pc = .ok (.invokestatic idx, 3)) (kk : cG p l e R s m args below meth c A D Y nL Q cells slots (pc + 3) lv st (cCpyI S a sp.toNatClampNeg b dq.toNatClampNeg n.toNatClampNeg)) : cG p l e R s m args below meth c A D Y nL Q cells slots pc lv (.int n :: .int dq :: .ref b :: .int sp :: .ref a :: st) S := by
  obtain ⟨⟨a1, a2⟩, ⟨b1, b2⟩, h3, h4, h5, h6, h7, h8, h9⟩ := h
  intro H locs ls hP hD hS hlv
  obtain ⟨hx, hb, hml, hown, hts, hK, hlo, hr, hA, hE⟩ := C
  obtain ⟨q0, e0⟩ := cWd_at (Y := Y) a1
  obtain ⟨q1, e1⟩ := cWd_at (Y := Y) b1
  have f1 := e1
  rw [cE_B a2] at e0
  rw [cE_B b2] at f1
  refine va_copyi hx hb (hml.trans hlv.1.symm) hown (hts _ hl) (hts _ ac_n.1) (hts _ ac_n.2.1) (hts _ ac_n.2.2) hK hP hD hS q0 q1 0 0 e0 f1 rfl rfl rfl h3 h4 h5 h6 h7 (h8 rfl) hF (by rw [nfw_ac]; exact hL) d (fun H1 locs1 hP1 hD1 hS1 => ?_)
  have hs : (cWd Y S).set q1 (b, .inl (Y.1, cn S b, .inl (va_cpy (cI S a) (cI S b) sp.toNatClampNeg dq.toNatClampNeg n.toNatClampNeg))) = cWd Y (cCpyI S a sp.toNatClampNeg b dq.toNatClampNeg n.toNatClampNeg) :=
    cWd_set hD b1 e1 rfl ((cE_B (S := cCpyI S a sp.toNatClampNeg b dq.toNatClampNeg n.toNatClampNeg) b2).trans (by rw [show cI (cCpyI S a sp.toNatClampNeg b dq.toNatClampNeg n.toNatClampNeg) b = va_cpy (cI S a) (cI S b) sp.toNatClampNeg dq.toNatClampNeg n.toNatClampNeg from upR_s]; rfl)) (fun b hb => cE_eq rfl (fun _ => rfl) (fun _ => rfl) (fun _ => rfl) rfl (upR_n hb) rfl rfl)
  rw [hs] at hP1 hD1
  exact kk H1 locs1 ls hP1 hD1 hS1 hlv
theorem cg_copy15 (C : cC p s m args meth c cc nL ret A D Y tp dp own) {a b idx : Nat} {sp dq n : Int32} (h : cCp S 15 a sp b dq n) (hl : Cond.methodLink own idx arraycopyName ∈ cWs) (hF : 1 ≤ R.frames) (hL : (st.map fun v => v.category).sum + 18 ≤ R.locals) (d : decode cc pc = .ok (.invokestatic idx, 3)) (kk : cG p l e R s m args below meth c A D Y nL Q cells slots (pc + 3) lv st (cCpyJ S a sp.toNatClampNeg b dq.toNatClampNeg n.toNatClampNeg)) : cG p l e R s m args below meth c A D Y nL Q cells slots pc lv (.int n :: .int dq :: .ref b :: .int sp :: .ref a :: st) S := by
  obtain ⟨⟨a1, a2⟩, ⟨b1, b2⟩, h3, h4, h5, h6, h7, h8, h9⟩ := h
  intro H locs ls hP hD hS hlv
  obtain ⟨hx, hb, hml, hown, hts, hK, hlo, hr, hA, hE⟩ := C
  obtain ⟨q0, e0⟩ := cWd_at (Y := Y) a1
  obtain ⟨q1, e1⟩ := cWd_at (Y := Y) b1
  have f1 := e1
  rw [cE_J a2] at e0
  rw [cE_J b2] at f1
  refine va_copyl hx hb (hml.trans hlv.1.symm) hown (hts _ hl) (hts _ ac_n.1) (hts _ ac_n.2.1) (hts _ ac_n.2.2) hK hP hD hS q0 q1 2 2 e0 f1 rfl rfl rfl h3 h4 h5 h6 h7 (fun _ _ => rfl) hF (by rw [nfw_ac]; exact hL) d (fun H1 locs1 hP1 hD1 hS1 => ?_)
  have hs : (cWd Y S).set q1 (b, .inl (Y.2.2.1, cn S b, .inr (.inl (va_cpy (cJ S a) (cJ S b) sp.toNatClampNeg dq.toNatClampNeg n.toNatClampNeg)))) = cWd Y (cCpyJ S a sp.toNatClampNeg b dq.toNatClampNeg n.toNatClampNeg) :=
    cWd_set hD b1 e1 rfl ((cE_J (S := cCpyJ S a sp.toNatClampNeg b dq.toNatClampNeg n.toNatClampNeg) b2).trans (by rw [show cJ (cCpyJ S a sp.toNatClampNeg b dq.toNatClampNeg n.toNatClampNeg) b = va_cpy (cJ S a) (cJ S b) sp.toNatClampNeg dq.toNatClampNeg n.toNatClampNeg from upR_s]; rfl)) (fun b hb => cE_eq rfl (fun _ => rfl) (fun _ => rfl) (fun _ => rfl) rfl rfl (upR_n hb) rfl)
  rw [hs] at hP1 hD1
  exact kk H1 locs1 ls hP1 hD1 hS1 hlv
theorem cg_copy17 (C : cC p s m args meth c cc nL ret A D Y tp dp own) {a b idx : Nat} {sp dq n : Int32} (h : cCp S 17 a sp b dq n) (hl : Cond.methodLink own idx arraycopyName ∈ cWs) (hF : 1 ≤ R.frames) (hL : (st.map fun v => v.category).sum + 18 ≤ R.locals) (d : decode cc pc = .ok (.invokestatic idx, 3)) (kk : cG p l e R s m args below meth c A D Y nL Q cells slots (pc + 3) lv st (cCpyO S a sp.toNatClampNeg b dq.toNatClampNeg n.toNatClampNeg)) : cG p l e R s m args below meth c A D Y nL Q cells slots pc lv (.int n :: .int dq :: .ref b :: .int sp :: .ref a :: st) S := by
  obtain ⟨⟨a1, a2⟩, ⟨b1, b2⟩, h3, h4, h5, h6, h7, h8, h9⟩ := h
  obtain ⟨k, hk, hel⟩ := h9 rfl
  intro H locs ls hP hD hS hlv
  obtain ⟨hx, hb, hml, hown, hts, hK, hlo, hr, hA, hE⟩ := C
  obtain ⟨q0, e0⟩ := cWd_at (Y := Y) a1
  obtain ⟨q1, e1⟩ := cWd_at (Y := Y) b1
  have f1 := e1
  rw [cE_O a2] at e0
  rw [cE_O b2] at f1
  obtain ⟨C', T, NN, hk13, hcl, hca⟩ : ∃ (C' : String) (T : u_T) (NN : Nat), k < 13 ∧ vwCl[kC k]? = some (C', T, NN) ∧ (C', "java/lang/Object") ∈ cXC := by
    rcases hk with rfl | rfl | rfl | rfl | rfl | rfl
    all_goals exact ⟨_, _, _, by decide, rfl, by decide⟩
  have hnw := hE.2.2.2.2.2.2.2.1 (C', "java/lang/Object") hca
  refine va_copyq (C := C') hx hb (hml.trans hlv.1.symm) hown (hts _ hl) (hts _ ac_n.1) (hts _ ac_n.2.1) (hts _ ac_n.2.2) hK hP hD hS q0 q1 4 4 e0 f1 rfl rfl h3 h4 h5 h6 h7 (fun i hi y hy => ?_) (fun comp c0 g1 g2 => ?_) hF (by rw [nfw_ac]; exact hL) d (fun H1 locs1 hP1 hD1 hS1 => ?_)
  · obtain ⟨y1, y2⟩ := hel i hi y hy
    exact c_recv hK hP y1 y2 hk13 hcl
  · obtain ⟨c1, t1, z1, z2, z3⟩ := Cond.castable_spec (va_Nw.use (A := args) rfl hnw)
    cases z1.symm.trans g2
    cases z2.symm.trans g1
    exact z3
  have hs : (cWd Y S).set q1 (b, .inl (Y.2.2.2.2.1, cn S b, .inr (.inr (.inr (.inr (va_cpy (cO S a) (cO S b) sp.toNatClampNeg dq.toNatClampNeg n.toNatClampNeg)))))) = cWd Y (cCpyO S a sp.toNatClampNeg b dq.toNatClampNeg n.toNatClampNeg) :=
    cWd_set hD b1 e1 rfl ((cE_O (S := cCpyO S a sp.toNatClampNeg b dq.toNatClampNeg n.toNatClampNeg) b2).trans (by rw [show cO (cCpyO S a sp.toNatClampNeg b dq.toNatClampNeg n.toNatClampNeg) b = va_cpy (cO S a) (cO S b) sp.toNatClampNeg dq.toNatClampNeg n.toNatClampNeg from upR_s]; rfl)) (fun b hb => cE_eq rfl (fun _ => rfl) (fun _ => rfl) (fun _ => rfl) rfl rfl rfl (upR_n hb))
  rw [hs] at hP1 hD1
  exact kk H1 locs1 ls hP1 hD1 hS1 hlv
end KW
theorem cac_X7_122 : Cond.methodLink RX7 122 arraycopyName ∈ cWs := cWs_i1 73 rfl
theorem cac_J7_150 : Cond.methodLink RJ7 150 arraycopyName ∈ cWs := cWs_i2 88 rfl
theorem cac_Jx4a65c_112 : Cond.methodLink RJx4a65c 112 arraycopyName ∈ cWs := cWs_i3 152 rfl
theorem ckw_J6_265 : Cond.constant RJ6 265 (1431655765) ∈ cWs := cWs_i1 89 rfl
theorem ckw_J6_266 : Cond.constant RJ6 266 (858993459) ∈ cWs := cWs_i1 90 rfl
theorem ckw_J6_267 : Cond.constant RJ6 267 (252645135) ∈ cWs := cWs_i1 91 rfl
theorem ckw_J8_200 : Cond.constant RJ8 200 (2147483639) ∈ cWs := cWs_i2 78 rfl
theorem cnc_X10_30 : Cond.classLink RX10 30 "SearchMill$Holding" ∈ cWs := cWs_i0 62 rfl
theorem cnc_X10_86 : Cond.classLink RX10 86 "SearchMill$Document" ∈ cWs := cWs_i4 59 rfl
theorem cnc_X11_16 : Cond.classLink RX11 16 RX0 ∈ cWs := cWs_i4 87 rfl
theorem cnc_X11_30 : Cond.classLink RX11 30 RX10 ∈ cWs := cWs_i4 92 rfl
theorem cnc_X11_58 : Cond.classLink RX11 58 RX6 ∈ cWs := cWs_i4 100 rfl
theorem cnc_X1_119 : Cond.classLink RX1 119 "SearchMill$Document" ∈ cWs := cWs_i1 143 rfl
theorem cnc_X1_161 : Cond.classLink RX1 161 "SearchMill$Node" ∈ cWs := cWs_i2 35 rfl
theorem cnc_X2_45 : Cond.classLink RX2 45 "SearchMill$Document" ∈ cWs := cWs_i2 69 rfl
theorem cnc_X6_41 : Cond.classLink RX6 41 "SearchMill$Node" ∈ cWs := cWs_i1 101 rfl
theorem cnc_X7_101 : Cond.classLink RX7 101 "SearchMill$Postings" ∈ cWs := cWs_i1 64 rfl
theorem cnc_X7_160 : Cond.classLink RX7 160 "SearchMill$Document" ∈ cWs := cWs_i3 127 rfl
theorem cnc_X7_56 : Cond.classLink RX7 56 "SearchMill$Node" ∈ cWs := cWs_i0 144 rfl
theorem cnc_X8_39 : Cond.classLink RX8 39 "SearchMill$Document" ∈ cWs := cWs_i4 5 rfl
theorem cnc_X8_67 : Cond.classLink RX8 67 "SearchMill$Postings" ∈ cWs := cWs_i0 82 rfl
