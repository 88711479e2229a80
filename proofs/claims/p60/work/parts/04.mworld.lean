def mI : List Nat := [1, 2, 0, 3, 0, 4, 0, 5, 6, 0, 0, 7, 8, 0, 0, 9, 10, 11, 12, 13, 0, 14, 15, 16, 17, 18, 0, 19, 20, 0, 21, 22, 23, 24, 0, 0, 25, 0, 26, 0, 0, 27, 0, 28, 29, 30, 31, 32, 0, 0, 33, 34, 0, 0, 35, 0, 36, 37, 0, 38, 0, 39, 40, 41, 42, 43, 44, 45, 46, 47, 48, 0, 0, 0, 49, 50, 51, 0, 52, 53, 54, 55, 56, 57, 58, 0, 59, 60, 0, 0, 0, 61, 0, 62, 63, 64, 0, 0, 0, 0]
def mTy : List Nat := [9, 1, 0, 1, 1, 1, 1, 1, 0, 0, 0, 0, 1, 0, 0, 0, 0, 1, 0, 0, 0, 2, 2, 2, 0, 0, 2, 0, 2, 0, 0, 0, 2, 0, 0, 1, 0, 0, 0, 0, 0, 0, 0, 2, 0, 1, 0, 0, 0, 0, 1, 0, 0, 0, 0, 0, 2, 0, 0, 0, 0, 0, 0, 0, 0]
def mLn : List Nat := [0, 12, 40, 20, 10, 10, 10, 40, 2, 12, 12, 12, 480, 24, 2424, 2424, 2424, 96960, 4848, 20200, 202, 20200, 20200, 20200, 202, 202, 20200, 202, 20200, 5, 1010, 5, 101000, 3, 100, 2200, 2300, 2400, 2424, 2424, 1968, 1968, 1968, 1968, 1968, 11808, 11808, 23616, 41, 2, 20, 20, 14, 14, 50, 48, 48, 8, 8, 20, 20, 48, 20, 20, 20]
abbrev mS : Type := (Nat → Int32) × (Nat → Nat → Int32) × (Nat → Nat → Int64)
def mFv (a : Nat → Nat) (v : Nat → Int32) (k : Nat) : Value := if mI.getD k 0 = 0 then .int (v k) else .ref (a (mI.getD k 0))
def mEv (cI cJ cZ : ClassId) (f : Nat → Nat → Int32) (g : Nat → Nat → Int64) (j : Nat) : va_E := if mTy.getD j 9 = 0 then .inl (cI, mLn.getD j 0, .inl (f j)) else if mTy.getD j 9 = 1 then .inl (cJ, mLn.getD j 0, .inr (.inl (g j))) else .inl (cZ, mLn.getD j 0, .inl (f j))
def mW (cI cJ cZ : ClassId) (a : Nat → Nat) (v : Nat → Int32) (f : Nat → Nat → Int32) (g : Nat → Nat → Int64) : va_W := (a 0, .inr (15, (List.range 100).map (mFv a v))) :: (List.range 64).map (fun j => (a (j + 1), mEv cI cJ cZ f g (j + 1)))
/-- one place of one row -/
def mU {α : Type} (f : Nat → Nat → α) (j i : Nat) (x : α) : Nat → Nat → α := fun b => if b = j then (fun k => if k = i then x else f j k) else f b
theorem mU_s {α : Type} {f : Nat → Nat → α} {j i : Nat} {x : α} : mU f j i x j = fun k => if k = i then x else f j k := by simp [mU]
theorem mU_n {α : Type} {f : Nat → Nat → α} {j i b : Nat} {x : α} (h : b ≠ j) : mU f j i x b = f b := by simp [mU, h]
theorem mW_0 {cI cJ cZ : ClassId} {a : Nat → Nat} {v : Nat → Int32} {f : Nat → Nat → Int32} {g : Nat → Nat → Int64} : (mW cI cJ cZ a v f g)[0]? = some (a 0, .inr (15, (List.range 100).map (mFv a v))) := rfl
theorem mW_s {cI cJ cZ : ClassId} {a : Nat → Nat} {v : Nat → Int32} {f : Nat → Nat → Int32} {g : Nat → Nat → Int64} {j : Nat} (h : j < 64) : (mW cI cJ cZ a v f g)[j + 1]? = some (a (j + 1), mEv cI cJ cZ f g (j + 1)) := by
  simp [mW, h]
theorem mF_k {a : Nat → Nat} {v : Nat → Int32} {k : Nat} (h : k < 100) : ((List.range 100).map (mFv a v))[k]? = some (mFv a v k) := by
  simp [h]
theorem mF_set {a : Nat → Nat} {v : Nat → Int32} {k : Nat} {x : Int32} (h : k < 100) (hk : mI.getD k 0 = 0) : ((List.range 100).map (mFv a v)).set k (.int x) = (List.range 100).map (mFv a (upd v k x)) := by
  apply List.ext_getElem?
  intro i
  rw [List.getElem?_set]
  by_cases e : k = i
  · subst e
    simp [h, mFv, upd]
    simpa using hk
  · rw [if_neg e]
    by_cases hi : i < 100
    · simp [hi, mFv, upd, Ne.symm e]
    · simp [hi]
theorem mW_put {cI cJ cZ : ClassId} {a : Nat → Nat} {v : Nat → Int32} {f : Nat → Nat → Int32} {g : Nat → Nat → Int64} {k : Nat} {x : Int32} (h : k < 100) (hk : mI.getD k 0 = 0) : (mW cI cJ cZ a v f g).set 0 (a 0, .inr (15, ((List.range 100).map (mFv a v)).set k (.int x))) = mW cI cJ cZ a (upd v k x) f g := by
  rw [mF_set h hk]; rfl
theorem mW_row {cI cJ cZ : ClassId} {a : Nat → Nat} {v : Nat → Int32} {f f' : Nat → Nat → Int32} {g g' : Nat → Nat → Int64} {j : Nat} {e : va_E} (h : j < 64) (he : mEv cI cJ cZ f' g' (j + 1) = e) (hf : ∀ b, b ≠ j + 1 → mEv cI cJ cZ f' g' b = mEv cI cJ cZ f g b) : (mW cI cJ cZ a v f g).set (j + 1) (a (j + 1), e) = mW cI cJ cZ a v f' g' := by
  unfold mW
  rw [List.set_cons_succ]
  congr 1
  apply List.ext_getElem?
  intro i
  rw [List.getElem?_set]
  by_cases q : j = i
  · subst q
    simp [h, he]
  · rw [if_neg q]
    by_cases hi : i < 64
    · simp [hi]
      exact (hf (i + 1) (by omega)).symm
    · simp [hi]
theorem mE_I {cI cJ cZ : ClassId} {f : Nat → Nat → Int32} {g : Nat → Nat → Int64} {j n : Nat} (h : mTy.getD j 9 = 0) (hn : mLn.getD j 0 = n) : mEv cI cJ cZ f g j = .inl (cI, n, .inl (f j)) := by
  unfold mEv; rw [if_pos h, hn]
theorem mE_J {cI cJ cZ : ClassId} {f : Nat → Nat → Int32} {g : Nat → Nat → Int64} {j n : Nat} (h : mTy.getD j 9 = 1) (hn : mLn.getD j 0 = n) : mEv cI cJ cZ f g j = .inl (cJ, n, .inr (.inl (g j))) := by
  unfold mEv; rw [if_neg (by rw [h]; decide), if_pos h, hn]
theorem mE_Z {cI cJ cZ : ClassId} {f : Nat → Nat → Int32} {g : Nat → Nat → Int64} {j n : Nat} (h : mTy.getD j 9 = 2) (hn : mLn.getD j 0 = n) : mEv cI cJ cZ f g j = .inl (cZ, n, .inl (f j)) := by
  unfold mEv; rw [if_neg (by rw [h]; decide), if_neg (by rw [h]; decide), hn]
theorem mE_fn {cI cJ cZ : ClassId} {f f' : Nat → Nat → Int32} {g g' : Nat → Nat → Int64} {b : Nat} (hf : f' b = f b) (hg : g' b = g b) : mEv cI cJ cZ f' g' b = mEv cI cJ cZ f g b := by
  unfold mEv; rw [hf, hg]
theorem mW_ij {cI cJ cZ : ClassId} {a : Nat → Nat} {v v' : Nat → Int32} {f f' : Nat → Nat → Int32} {g g' : Nat → Nat → Int64} {i : Nat} {p : Nat × va_E} (h : (mW cI cJ cZ a v' f' g')[i]? = some p) : ∃ q : Nat × va_E, (mW cI cJ cZ a v f g)[i]? = some q ∧ q.1 = p.1 := by
  cases i with
  | zero => cases h; exact ⟨_, rfl, rfl⟩
  | succ j =>
    by_cases hj : j < 64
    · rw [mW_s hj] at h; cases h; exact ⟨_, mW_s hj, rfl⟩
    · simp [mW, hj] at h
theorem mW_D {A : Nat → Prop} {cI cJ cZ : ClassId} {a : Nat → Nat} {v v' : Nat → Int32} {f f' : Nat → Nat → Int32} {g g' : Nat → Nat → Int64} (h : va_D A (mW cI cJ cZ a v f g)) : va_D A (mW cI cJ cZ a v' f' g') := by
  refine ⟨fun i j p q hp hq e => ?_, fun k q hq => ?_⟩
  · obtain ⟨p1, hp1, ep⟩ := mW_ij (v := v) (f := f) (g := g) hp
    obtain ⟨q1, hq1, eq⟩ := mW_ij (v := v) (f := f) (g := g) hq
    exact h.1 i j p1 q1 hp1 hq1 (by rw [ep, eq, e])
  · obtain ⟨q1, hq1, eq⟩ := mW_ij (v := v) (f := f) (g := g) hq
    rw [← eq]; exact h.2 k q1 hq1
abbrev mTys (cI cJ cZ : ClassId) : List (ClassId × FieldType) := [(cI, .int), (cJ, .long), (cZ, .boolean)]
/-- the judgement: from the frame at pc with these locals and this stack, over the world v f g, a state with Q is reached -/
def mG (p : Program) (l : Launch) (e : Env) (R : Room) (s : State) (m : MethodId) (args : Array Value) (below : List Frame) (meth : Method) (c : Code) (A : Nat → Prop) (D : va_G) (cI cJ cZ : ClassId) (a : Nat → Nat) (nL : Nat) (Q : State → Prop) (pc : Nat) (lv : List (Nat × Value)) (st : List Value) (v : Nat → Int32) (f : Nat → Nat → Int32) (g : Nat → Nat → Int64) : Prop :=
  ∀ (H : Heap) (locs : List Loc) (ls : Array Slot), va_P D vwCl (mW cI cJ cZ a v f g) H → va_D A (mW cI cJ cZ a v f g) → va_S A s.heap H locs → lv_has ls nL lv → W p l e R s m args below meth c H locs 0 0 Q (F0 m pc ls st)
abbrev mB (D : va_G) (cI cJ cZ : ClassId) (a : Nat → Nat) (u : mS) (t : State) : Prop := va_P D vwCl (mW cI cJ cZ a u.1 u.2.1 u.2.2) t.heap ∧ va_K D vwCl (mTys cI cJ cZ) t
def mAv (st : Bool) (a : Nat → Nat) (As : List Value) : List Value := match st with
  | true => As
  | false => .ref (a 0) :: As
abbrev mPre (D : va_G) (cI cJ cZ : ClassId) (a : Nat → Nat) (v : Nat → Int32) (f : Nat → Nat → Int32) (g : Nat → Nat → Int64) (sz : Nat) (U : State) : Prop := U.heap.size = sz ∧ va_P D vwCl (mW cI cJ cZ a v f g) U.heap ∧ va_K D vwCl (mTys cI cJ cZ) U ∧ va_D (fun _ => True) (mW cI cJ cZ a v f g)
abbrev mRm (fr lo : Nat) : Room := { frames := fr, cells := 0, slots := 0, locals := lo }
section MG
variable {p : Program} {l : Launch} {e : Env} {R : Room} {s : State} {m : MethodId} {args : Array Value} {below : List Frame} {meth : Method} {c : Code} {cc : ByteArray} {nL : Nat} {ret : Option FieldType} {A : Nat → Prop} {D : va_G} {cI cJ cZ : ClassId} {a : Nat → Nat} {Q : State → Prop}
variable {pc : Nat} {lv lv' : List (Nat × Value)} {st : List Value} {v : Nat → Int32} {f : Nat → Nat → Int32} {g : Nat → Nat → Int64}
theorem mg_lv (h : lv = lv') (k : mG p l e R s m args below meth c A D cI cJ cZ a nL Q pc lv' st v f g) : mG p l e R s m args below meth c A D cI cJ cZ a nL Q pc lv st v f g := by rw [h]; exact k
theorem mg_sub (ks : List Nat) (h : lv_pick lv ks = lv') (k : mG p l e R s m args below meth c A D cI cJ cZ a nL Q pc lv' st v f g) : mG p l e R s m args below meth c A D cI cJ cZ a nL Q pc lv st v f g := fun H locs ls hP hD hS hl => k H locs ls hP hD hS (lv_sub hl ks h)
theorem m_pre {v : Nat → Int32} {f : Nat → Nat → Int32} {g : Nat → Nat → Int64} {H : Heap} {av : List Value} (hK : va_K D vwCl (mTys cI cJ cZ) s) (hP : va_P D vwCl (mW cI cJ cZ a v f g) H) (hD : va_D A (mW cI cJ cZ a v f g)) : FrameBlind (va_Pc av (mPre D cI cJ cZ a v f g H.size)) ∧ ∀ U : State, U.heap = H → s.WarmedH U.vm → va_Pc av (mPre D cI cJ cZ a v f g H.size) av.toArray U :=
  ⟨fun a' U g' mk q => by obtain ⟨q0, q1, qP, qK, qD⟩ := q; exact ⟨q0, q1, qP, va_K.moved (u := U) (U := U.calling g' mk a') (Vm.Alike.refl U.vm) qK, qD⟩, fun U hU hW => ⟨rfl, by rw [hU], by rw [hU]; exact hP, va_K.moved hW.alike hK, hD.weaken (fun _ _ _ _ => trivial)⟩⟩
theorem m_free {v : Nat → Int32} {f : Nat → Nat → Int32} {g : Nat → Nat → Int64} {H : Heap} {locs : List Loc} (hD : va_D A (mW cI cJ cZ a v f g)) (hS : va_S A s.heap H locs) (hA : ∀ q, s.heap.size ≤ q → A q) : ∀ q, va_A (mW cI cJ cZ a v f g) H.size q → A q := by
  intro q h
  rcases h with ⟨k, e, h⟩ | h
  · exact hD.2 k _ h
  · exact hA q (Nat.le_trans hS.1 h)
end MG
