/-! THE CLAIM OUT OF ONE WALK OF THE LAW'S BODY. Your part is whole_start (and what it stands on); all else here is the same for every law, but numbers. -/
def R_law : String := "SearchMillLaw"
def lw_P (b : Addr) (xs : List Int32) (args : Array Value) (s : State) : Prop := args = #[.ref b] ∧ s.IntsAt b xs ∧ xs.length ≤ 3072 ∧ (Jvm.Cond.and given_1 narrow_1).before args s = true
def lw_Q (_ : Array Value) (s : State) (o : Outcome) (t : State) : Prop := o = .returned (some (.int 1)) ∧ Framed s o t [] room_1.cells room_1.slots
def lw_Z (below : List Frame) (a : Array Value) (s : State) : State → Prop := fun t => ∃ o, t.status = .running ∧ Ended t below o ∧ lw_Q a s o t
/-- the room, and what the proof asks of it -/
theorem rm_1 : 601024 ≤ room_1.cells ∧ 7293033 ≤ room_1.slots := ⟨Nat.le_of_ble_eq_true rfl, Nat.le_of_ble_eq_true rfl⟩
theorem rm_of {c d : Nat} (h : c ≤ 601024 ∧ d ≤ 7293033) : c ≤ room_1.cells ∧ d ≤ room_1.slots := ⟨Nat.le_trans h.1 rm_1.1, Nat.le_trans h.2 rm_1.2⟩
/-- the law's own end, with 1 on the stack, nothing written that was there before, its room as the claim has it -/
theorem lw_ret {p : Program} {l : Launch} {e : Env} {s : State} {m : MethodId} {below : List Frame} {meth : Method} {c : Code} {b : Nat} (hx : p.tables.exec = Jvm.exec) (hb : c.code = code) (hr : meth.sig.returnType = ret) (hlocks : meth.locks = false) {pc : Nat} {H : Heap} {ls : Array Slot} (hdg : decode code pc = .ok (.ireturn, 1)) : W p l e room_1 s m #[Value.ref b] below meth c H [] room_1.cells room_1.slots (lw_Z below #[Value.ref b] s) (F0 m pc ls [.int 1]) := by
  intro T hT X
  obtain ⟨fs, hret, hrun, hended, hW, hframe⟩ := X.leave (v := some (.int 1)) (hlocks := hlocks) (fun h => by rw [hr] at h; cases h)
  have hmeth' : T.vm.method? m = some meth := X.method'
  refine ⟨T.setFrames fs, ?_, .returned (some (.int 1)), hrun, hended, rfl, ⟨_, rfl⟩, hW, hframe⟩
  jvm_step X.here [X.here.top, hx, hb, hdg, hmeth', hr, ret, narrow_b1]
  (try refine ⟨rfl, ?_⟩); (try refine ⟨rfl, ?_⟩)
  first | (intro acts; rw [hret _ acts rfl rfl rfl]) | rw [hret _ _ rfl rfl rfl]
  exact Steps.refl _
/-- what holds at the law's entry: the machine, the code, the tables' words (any of lw_tbl by 'hts w (by decide +kernel)'), the script of L ints xs at the cell b, what the Statement gives of the start (any of its parts by flat_of_before) -/
def lw_At (p : Program) (s : State) (m : MethodId) (meth : Method) (c : Code) (b L : Nat) (xs : Nat → Int32) : Prop :=
  p.tables.exec = Jvm.exec ∧ c.code = code ∧ meth.sig.returnType = ret ∧ c.maxLocals = 7 ∧ s.vm.findClass R_law = some m.cls ∧ (∀ w ∈ lw_tbl, w.before #[Value.ref b] s = true) ∧ va_X b L xs s s.heap ∧ b < s.heap.size ∧ meth.locks = false ∧ (Jvm.Cond.and given_1 narrow_1).before #[Value.ref b] s = true
/-! the law: two worlds side by side -/
section LW
variable {D : va_G} {cl : List vw_C} {A : Nat → Prop} {w1 w2 w1' : va_W} {H H1 : Heap}
theorem vP_l (h : va_P D cl (w1 ++ w2) H) : va_P D cl w1 H := fun k q hk => h k q (by rw [List.getElem?_append_left (List.getElem?_eq_some_iff.mp hk).1]; exact hk)
theorem vP_r (h : va_P D cl (w1 ++ w2) H) : va_P D cl w2 H := fun k q hk => h (w1.length + k) q (by rw [List.getElem?_append_right (by omega)]; simpa using hk)
theorem vD_l (h : va_D A (w1 ++ w2)) : va_D A w1 := ⟨fun i j p q hi hj e => h.1 i j p q (by rw [List.getElem?_append_left (List.getElem?_eq_some_iff.mp hi).1]; exact hi) (by rw [List.getElem?_append_left (List.getElem?_eq_some_iff.mp hj).1]; exact hj) e, fun k q hk => h.2 k q (by rw [List.getElem?_append_left (List.getElem?_eq_some_iff.mp hk).1]; exact hk)⟩
theorem vD_r (h : va_D A (w1 ++ w2)) : va_D A w2 := ⟨fun i j p q hi hj e => by
    have := h.1 (w1.length + i) (w1.length + j) p q (by rw [List.getElem?_append_right (by omega)]; simpa using hi) (by rw [List.getElem?_append_right (by omega)]; simpa using hj) e
    omega, fun k q hk => h.2 (w1.length + k) q (by rw [List.getElem?_append_right (by omega)]; simpa using hk)⟩
theorem vD_x (h : va_D A (w1 ++ w2)) {i j : Nat} {p q : Nat × va_E} (hi : w1[i]? = some p) (hj : w2[j]? = some q) : p.1 ≠ q.1 := fun e => by
  have hl := (List.getElem?_eq_some_iff.mp hi).1
  have := h.1 i (w1.length + j) p q (by rw [List.getElem?_append_left hl]; exact hi) (by rw [List.getElem?_append_right (by omega)]; simpa using hj) e
  omega
theorem vD_mk (h1 : va_D A w1) (h2 : va_D A w2) (hx : ∀ (i j : Nat) (p q : Nat × va_E), w1[i]? = some p → w2[j]? = some q → p.1 ≠ q.1) : va_D A (w1 ++ w2) := by
  refine ⟨fun i j p q hi hj e => ?_, fun k q hk => ?_⟩
  · by_cases c1 : i < w1.length <;> by_cases c2 : j < w1.length
    · rw [List.getElem?_append_left c1] at hi; rw [List.getElem?_append_left c2] at hj; exact h1.1 i j p q hi hj e
    · rw [List.getElem?_append_left c1] at hi; rw [List.getElem?_append_right (by omega)] at hj; exact absurd e (hx _ _ _ _ hi hj)
    · rw [List.getElem?_append_right (by omega)] at hi; rw [List.getElem?_append_left c2] at hj; exact absurd e.symm (hx _ _ _ _ hj hi)
    · rw [List.getElem?_append_right (by omega)] at hi hj
      have := h2.1 _ _ p q hi hj e
      omega
  · by_cases c1 : k < w1.length
    · rw [List.getElem?_append_left c1] at hk; exact h1.2 k q hk
    · rw [List.getElem?_append_right (by omega)] at hk; exact h2.2 _ q hk
/-- behind a call that took the one world: the other is as it was -/
theorem v_join_l (hP : va_P D cl (w1 ++ w2) H) (hD : va_D A (w1 ++ w2)) (hk : ∀ q : Nat, q < H.size → ¬ va_A w1 H.size q → H1[q]? = H[q]?) (hF : ∀ q, va_A w1 H.size q → A q) (hP1 : va_P D cl w1' H1) (hD1 : va_D (va_A w1 H.size) w1') : va_P D cl (w1' ++ w2) H1 ∧ va_D A (w1' ++ w2) := by
  have hlt : ∀ (j : Nat) (q : Nat × va_E), w2[j]? = some q → q.1 < H.size ∧ ¬ va_A w1 H.size q.1 := fun j q hq => by
    have h1 := ((vP_r hP) j q hq).lt
    refine ⟨h1, fun z => ?_⟩
    rcases z with ⟨k, e, h⟩ | h
    · exact vD_x hD h hq rfl
    · omega
  refine ⟨hP1.app ((vP_r hP).kept (fun k q hq => hk q.1 (hlt k q hq).1 (hlt k q hq).2)), vD_mk (hD1.weaken (fun k q _ h => hF q.1 h)) (vD_r hD) (fun i j p q hi hj e => (hlt j q hj).2 (e ▸ hD1.2 i p hi))⟩
theorem v_join_r (hP : va_P D cl (w2 ++ w1) H) (hD : va_D A (w2 ++ w1)) (hk : ∀ q : Nat, q < H.size → ¬ va_A w1 H.size q → H1[q]? = H[q]?) (hF : ∀ q, va_A w1 H.size q → A q) (hP1 : va_P D cl w1' H1) (hD1 : va_D (va_A w1 H.size) w1') : va_P D cl (w2 ++ w1') H1 ∧ va_D A (w2 ++ w1') := by
  have hlt : ∀ (j : Nat) (q : Nat × va_E), w2[j]? = some q → q.1 < H.size ∧ ¬ va_A w1 H.size q.1 := fun j q hq => by
    have h1 := ((vP_l hP) j q hq).lt
    refine ⟨h1, fun z => ?_⟩
    rcases z with ⟨k, e, h⟩ | h
    · exact vD_x hD hq h rfl
    · omega
  refine ⟨((vP_l hP).kept (fun k q hq => hk q.1 (hlt k q hq).1 (hlt k q hq).2)).app hP1, vD_mk (vD_l hD) (hD1.weaken (fun k q _ h => hF q.1 h)) (fun i j p q hi hj e => (hlt i p hi).2 (e ▸ hD1.2 j q hj))⟩
end LW
abbrev lA (s : State) : Nat → Prop := fun q => s.heap.size ≤ q
def lC (p : Program) (l : Launch) (s : State) (m : MethodId) (meth : Method) (c : Code) (b L : Nat) (xs : Nat → Int32) (D : va_G) (Y : cY) (tp dp : Nat) : Prop := p.tables.exec = Jvm.exec ∧ c.code = code ∧ c.maxLocals = 7 ∧ s.vm.findClass RL = some m.cls ∧ (∀ w ∈ lw_tbl, w.before #[Value.ref b] s = true) ∧ va_K D vwCl (cTys Y) s ∧ meth.locks = false ∧ meth.sig.returnType = ret ∧ va_X b L xs s s.heap ∧ b < s.heap.size ∧ l.stackTraces = false ∧ cEnv (lA s) tp dp s s.heap
abbrev lWd (Y : cY) (S : cS) (a : Nat → Nat) (v : Nat → Int32) (f : Nat → Nat → Int32) (g : Nat → Nat → Int64) : va_W := cWd Y S ++ mW Y.2.1 Y.2.2.1 Y.2.2.2.1 a v f g
def lG (p : Program) (l : Launch) (e : Env) (s : State) (m : MethodId) (below : List Frame) (meth : Method) (c : Code) (b : Nat) (D : va_G) (Y : cY) (cells slots pc : Nat) (lv : List (Nat × Value)) (st : List Value) (S : cS) (a : Nat → Nat) (v : Nat → Int32) (f : Nat → Nat → Int32) (g : Nat → Nat → Int64) : Prop :=
  ∀ (H : Heap) (locs : List Loc) (ls : Array Slot), va_P D vwCl (lWd Y S a v f g) H → va_D (lA s) (lWd Y S a v f g) → va_S (lA s) s.heap H locs → lv_has ls 7 lv → W p l e room_1 s m #[Value.ref b] below meth c H locs cells slots (lw_Z below #[Value.ref b] s) (F0 m pc ls st)
section LG
variable {p : Program} {l : Launch} {e : Env} {s : State} {m : MethodId} {below : List Frame} {meth : Method} {c : Code} {b L : Nat} {xs : Nat → Int32} {D : va_G} {Y : cY} {tp dp : Nat} {cells slots : Nat}
variable {pc : Nat} {lv lv' : List (Nat × Value)} {st : List Value} {S : cS} {a : Nat → Nat} {v : Nat → Int32} {f : Nat → Nat → Int32} {g : Nat → Nat → Int64}
theorem lq_lv (h : lv = lv') (k : lG p l e s m below meth c b D Y cells slots pc lv' st S a v f g) : lG p l e s m below meth c b D Y cells slots pc lv st S a v f g := by rw [h]; exact k
theorem lq_sub (ks : List Nat) (h : lv_pick lv ks = lv') (k : lG p l e s m below meth c b D Y cells slots pc lv' st S a v f g) : lG p l e s m below meth c b D Y cells slots pc lv st S a v f g := fun H locs ls hP hD hS hl => k H locs ls hP hD hS (lv_sub hl ks h)
theorem lq_cast {x : Value} (y : Value) (h : x = y) (k : lG p l e s m below meth c b D Y cells slots pc lv (y :: st) S a v f g) : lG p l e s m below meth c b D Y cells slots pc lv (x :: st) S a v f g := by rw [h]; exact k
theorem lq_iadd (C : lC p l s m meth c b L xs D Y tp dp) {x y : Int32} (d : decode code pc = .ok (.iadd, 1)) (kk : lG p l e s m below meth c b D Y cells slots (pc + 1) lv (.int (x + y) :: st) S a v f g) : lG p l e s m below meth c b D Y cells slots pc lv (.int y :: .int x :: st) S a v f g := fun H locs ls hP hD hS hl => lv_iadd C.1 C.2.1 d (kk H locs ls hP hD hS hl)
theorem lq_isub (C : lC p l s m meth c b L xs D Y tp dp) {x y : Int32} (d : decode code pc = .ok (.isub, 1)) (kk : lG p l e s m below meth c b D Y cells slots (pc + 1) lv (.int (x - y) :: st) S a v f g) : lG p l e s m below meth c b D Y cells slots pc lv (.int y :: .int x :: st) S a v f g := fun H locs ls hP hD hS hl => lv_isub C.1 C.2.1 d (kk H locs ls hP hD hS hl)
theorem lq_iand (C : lC p l s m meth c b L xs D Y tp dp) {x y : Int32} (d : decode code pc = .ok (.iand, 1)) (kk : lG p l e s m below meth c b D Y cells slots (pc + 1) lv (.int (x &&& y) :: st) S a v f g) : lG p l e s m below meth c b D Y cells slots pc lv (.int y :: .int x :: st) S a v f g := fun H locs ls hP hD hS hl => lv_iand C.1 C.2.1 d (kk H locs ls hP hD hS hl)
theorem lq_iconst (C : lC p l s m meth c b L xs D Y tp dp) {n : Int} {x : Int32} (h : Int32.ofInt n = x) (d : decode code pc = .ok (.iconst n, 1)) (kk : lG p l e s m below meth c b D Y cells slots (pc + 1) lv (.int x :: st) S a v f g) : lG p l e s m below meth c b D Y cells slots pc lv (st) S a v f g := fun H locs ls hP hD hS hl => lv_iconst C.1 C.2.1 d h (kk H locs ls hP hD hS hl)
theorem lq_lconst (C : lC p l s m meth c b L xs D Y tp dp) {n : Fin 2} {x : Int64} (h : Int64.ofNat (n : Nat) = x) (d : decode code pc = .ok (.lconst n, 1)) (kk : lG p l e s m below meth c b D Y cells slots (pc + 1) lv (.long x :: st) S a v f g) : lG p l e s m below meth c b D Y cells slots pc lv (st) S a v f g := fun H locs ls hP hD hS hl => lv_lconst C.1 C.2.1 d h (kk H locs ls hP hD hS hl)
theorem lq_bipush (C : lC p l s m meth c b L xs D Y tp dp) {n : Int} {x : Int32} (h : (Int8.ofInt n).toInt32 = x) (d : decode code pc = .ok (.bipush n, 2)) (kk : lG p l e s m below meth c b D Y cells slots (pc + 2) lv (.int x :: st) S a v f g) : lG p l e s m below meth c b D Y cells slots pc lv (st) S a v f g := fun H locs ls hP hD hS hl => lv_bipush C.1 C.2.1 d h (kk H locs ls hP hD hS hl)
theorem lq_iload (C : lC p l s m meth c b L xs D Y tp dp) {i : Nat} {x : Int32} (k : Nat) (h : lv[k]? = some (i, .int x)) (d : decode code pc = .ok (.iload i, 2)) (kk : lG p l e s m below meth c b D Y cells slots (pc + 2) lv (.int x :: st) S a v f g) : lG p l e s m below meth c b D Y cells slots pc lv (st) S a v f g := fun H locs ls hP hD hS hl => lv_iload C.1 C.2.1 d (lv_at hl k h) (kk H locs ls hP hD hS hl)
theorem lq_iload_n (C : lC p l s m meth c b L xs D Y tp dp) {j : Fin 4} {i : Nat} {x : Int32} (hi : (j : Nat) = i) (k : Nat) (h : lv[k]? = some (i, .int x)) (d : decode code pc = .ok (.iload_n j, 1)) (kk : lG p l e s m below meth c b D Y cells slots (pc + 1) lv (.int x :: st) S a v f g) : lG p l e s m below meth c b D Y cells slots pc lv (st) S a v f g := fun H locs ls hP hD hS hl => lv_iload_n C.1 C.2.1 d hi (lv_at hl k h) (kk H locs ls hP hD hS hl)
theorem lq_aload (C : lC p l s m meth c b L xs D Y tp dp) {i : Nat} {x : Nat} (k : Nat) (h : lv[k]? = some (i, .ref x)) (d : decode code pc = .ok (.aload i, 2)) (kk : lG p l e s m below meth c b D Y cells slots (pc + 2) lv (.ref x :: st) S a v f g) : lG p l e s m below meth c b D Y cells slots pc lv (st) S a v f g := fun H locs ls hP hD hS hl => lv_aload C.1 C.2.1 d (lv_at hl k h) (kk H locs ls hP hD hS hl)
theorem lq_aload_n (C : lC p l s m meth c b L xs D Y tp dp) {j : Fin 4} {i : Nat} {x : Nat} (hi : (j : Nat) = i) (k : Nat) (h : lv[k]? = some (i, .ref x)) (d : decode code pc = .ok (.aload_n j, 1)) (kk : lG p l e s m below meth c b D Y cells slots (pc + 1) lv (.ref x :: st) S a v f g) : lG p l e s m below meth c b D Y cells slots pc lv (st) S a v f g := fun H locs ls hP hD hS hl => lv_aload_n C.1 C.2.1 d hi (lv_at hl k h) (kk H locs ls hP hD hS hl)
theorem lq_istore (C : lC p l s m meth c b L xs D Y tp dp) {i : Nat} {x : Int32} (hn : i < 7) (h : (i, Value.int x) :: lv.filter (fun q => !(q.1 == i) && !(q.1 + 1 == i && q.2.category == 2)) = lv') (d : decode code pc = .ok (.istore i, 2)) (kk : lG p l e s m below meth c b D Y cells slots (pc + 2) lv' (st) S a v f g) : lG p l e s m below meth c b D Y cells slots pc lv (.int x :: st) S a v f g := fun H locs ls hP hD hS hl => lv_istore C.1 C.2.1 d hl hn h (fun ls' hl' => kk H locs ls' hP hD hS hl')
theorem lq_iinc (C : lC p l s m meth c b L xs D Y tp dp) {i : Nat} {n : Int} {x y : Int32} (k : Nat) (hk : lv[k]? = some (i, .int x)) (hy : x + Int32.ofInt n = y) (hn : i < 7) (h : (i, Value.int y) :: lv.filter (fun q => !(q.1 == i) && !(q.1 + 1 == i && q.2.category == 2)) = lv') (d : decode code pc = .ok (.iinc i n, 3)) (kk : lG p l e s m below meth c b D Y cells slots (pc + 3) lv' (st) S a v f g) : lG p l e s m below meth c b D Y cells slots pc lv (st) S a v f g := fun H locs ls hP hD hS hl => lv_iinc C.1 C.2.1 d hl hk hy hn h (fun ls' hl' => kk H locs ls' hP hD hS hl')
theorem lq_i2l (C : lC p l s m meth c b L xs D Y tp dp) {x : Int32} (d : decode code pc = .ok (.i2l, 1)) (kk : lG p l e s m below meth c b D Y cells slots (pc + 1) lv (.long x.toInt64 :: st) S a v f g) : lG p l e s m below meth c b D Y cells slots pc lv (.int x :: st) S a v f g := fun H locs ls hP hD hS hl => lv_i2l C.1 C.2.1 d rfl (kk H locs ls hP hD hS hl)
theorem lq_i2c (C : lC p l s m meth c b L xs D Y tp dp) {x : Int32} (d : decode code pc = .ok (.i2c, 1)) (kk : lG p l e s m below meth c b D Y cells slots (pc + 1) lv (.int (x.toUInt32 % 65536).toInt32 :: st) S a v f g) : lG p l e s m below meth c b D Y cells slots pc lv (.int x :: st) S a v f g := fun H locs ls hP hD hS hl => lv_i2c C.1 C.2.1 d rfl (kk H locs ls hP hD hS hl)
theorem lq_lcmp (C : lC p l s m meth c b L xs D Y tp dp) {x y : Int64} (d : decode code pc = .ok (.lcmp, 1)) (kk : lG p l e s m below meth c b D Y cells slots (pc + 1) lv (.int (lg_cmp x y) :: st) S a v f g) : lG p l e s m below meth c b D Y cells slots pc lv (.long y :: .long x :: st) S a v f g := fun H locs ls hP hD hS hl => W.lcmp C.1 C.2.1 d (kk H locs ls hP hD hS hl)
theorem lq_goto (C : lC p l s m meth c b L xs D Y tp dp) {off : Int} (t : Nat) (ht : (pc : Int) + off = (t : Int)) (d : decode code pc = .ok (.goto off, 3)) (kk : lG p l e s m below meth c b D Y cells slots t lv st S a v f g) : lG p l e s m below meth c b D Y cells slots pc lv st S a v f g := fun H locs ls hP hD hS hl => lv_goto C.1 C.2.1 d ht (kk H locs ls hP hD hS hl)
theorem lq_if_eq (C : lC p l s m meth c b L xs D Y tp dp) {x : Int32} {off : Int} (t : Nat) (ht : (pc : Int) + off = (t : Int)) (d : decode code pc = .ok (.ifCond .eq off, 3)) (kt : x = 0 → lG p l e s m below meth c b D Y cells slots t lv st S a v f g) (kf : ¬ x = 0 → lG p l e s m below meth c b D Y cells slots (pc + 3) lv st S a v f g) : lG p l e s m below meth c b D Y cells slots pc lv (.int x :: st) S a v f g := fun H locs ls hP hD hS hl => lv_if_eq C.1 C.2.1 d ht (fun q => kt q H locs ls hP hD hS hl) (fun q => kf q H locs ls hP hD hS hl)
theorem lq_if_ne (C : lC p l s m meth c b L xs D Y tp dp) {x : Int32} {off : Int} (t : Nat) (ht : (pc : Int) + off = (t : Int)) (d : decode code pc = .ok (.ifCond .ne off, 3)) (kt : ¬ x = 0 → lG p l e s m below meth c b D Y cells slots t lv st S a v f g) (kf : x = 0 → lG p l e s m below meth c b D Y cells slots (pc + 3) lv st S a v f g) : lG p l e s m below meth c b D Y cells slots pc lv (.int x :: st) S a v f g := fun H locs ls hP hD hS hl => lv_if_ne C.1 C.2.1 d ht (fun q => kt q H locs ls hP hD hS hl) (fun q => kf q H locs ls hP hD hS hl)
theorem lq_if_eqL (C : lC p l s m meth c b L xs D Y tp dp) {x : Int64} {off : Int} (t : Nat) (ht : (pc : Int) + off = (t : Int)) (d : decode code pc = .ok (.ifCond .eq off, 3)) (kt : lG p l e s m below meth c b D Y cells slots t lv st S a v f g) : lG p l e s m below meth c b D Y cells slots pc lv (.int (lg_cmp x x) :: st) S a v f g := lq_if_eq C t ht d (fun _ => kt) (fun q => absurd ((lg_cmp_eq x x).mpr rfl) q)
theorem lq_icmp_eq (C : lC p l s m meth c b L xs D Y tp dp) {x y : Int32} {off : Int} (t : Nat) (ht : (pc : Int) + off = (t : Int)) (d : decode code pc = .ok (.if_icmp .eq off, 3)) (kt : x = y → lG p l e s m below meth c b D Y cells slots t lv st S a v f g) (kf : ¬ x = y → lG p l e s m below meth c b D Y cells slots (pc + 3) lv st S a v f g) : lG p l e s m below meth c b D Y cells slots pc lv (.int y :: .int x :: st) S a v f g := fun H locs ls hP hD hS hl => lv_icmp_eq C.1 C.2.1 d ht (fun q => kt q H locs ls hP hD hS hl) (fun q => kf q H locs ls hP hD hS hl)
theorem lq_icmp_gt (C : lC p l s m meth c b L xs D Y tp dp) {x y : Int32} {off : Int} (t : Nat) (ht : (pc : Int) + off = (t : Int)) (d : decode code pc = .ok (.if_icmp .gt off, 3)) (kt : y < x → lG p l e s m below meth c b D Y cells slots t lv st S a v f g) (kf : ¬ y < x → lG p l e s m below meth c b D Y cells slots (pc + 3) lv st S a v f g) : lG p l e s m below meth c b D Y cells slots pc lv (.int y :: .int x :: st) S a v f g := fun H locs ls hP hD hS hl => lv_icmp_gt C.1 C.2.1 d ht (fun q => kt q H locs ls hP hD hS hl) (fun q => kf q H locs ls hP hD hS hl)
theorem lq_sld (C : lC p l s m meth c b L xs D Y tp dp) (k : Nat) (hk : k < L) (hL : L < 2 ^ 31) (d : decode code pc = .ok (.iaload, 1)) (kk : lG p l e s m below meth c b D Y cells slots (pc + 1) lv (.int (xs k) :: st) S a v f g) : lG p l e s m below meth c b D Y cells slots pc lv (.int (nI k) :: .ref b :: st) S a v f g := by
  intro H locs ls hP hD hS hlv
  obtain ⟨hx, hb, hml, hown, hts, hK, hlo, hr, hX, hbl, hlt, hE⟩ := C
  refine va_sld hx hb hX hbl (Nat.not_le.mpr hbl) hS (vp_in_nI hk hL) d ?_
  rw [nI_clamp (Nat.lt_trans hk hL)]
  exact kk H locs ls hP hD hS hlv
theorem lq_slen (C : lC p l s m meth c b L xs D Y tp dp) (d : decode code pc = .ok (.arraylength, 1)) (kk : lG p l e s m below meth c b D Y cells slots (pc + 1) lv (.int (nI L) :: st) S a v f g) : lG p l e s m below meth c b D Y cells slots pc lv (.ref b :: st) S a v f g := by
  intro H locs ls hP hD hS hlv
  obtain ⟨hx, hb, hml, hown, hts, hK, hlo, hr, hX, hbl, hlt, hE⟩ := C
  exact va_slen hx hb hX hbl (Nat.not_le.mpr hbl) hS d (kk H locs ls hP hD hS hlv)
theorem lq_tabIn (C : lC p l s m meth c b L xs D Y tp dp) {dflt lo hi : Int} {offs : Array Int} {len : Nat} {x : Int32} {off : Int} (t : Nat) (d : decode code pc = .ok (.tableswitch dflt lo hi offs, len)) (h1 : ¬ x.toInt < lo) (h2 : ¬ hi < x.toInt) (ho : offs[(x.toInt - lo).toNat]? = some off) (ht : (pc : Int) + off = (t : Int)) (kk : lG p l e s m below meth c b D Y cells slots t lv st S a v f g) : lG p l e s m below meth c b D Y cells slots pc lv (.int x :: st) S a v f g := fun H locs ls hP hD hS hl => lv_tableIn C.1 C.2.1 d h1 h2 ho ht (kk H locs ls hP hD hS hl)
theorem lq_tabOut (C : lC p l s m meth c b L xs D Y tp dp) {dflt lo hi : Int} {offs : Array Int} {len : Nat} {x : Int32} (t : Nat) (d : decode code pc = .ok (.tableswitch dflt lo hi offs, len)) (h : x.toInt < lo ∨ hi < x.toInt) (ht : (pc : Int) + dflt = (t : Int)) (kk : lG p l e s m below meth c b D Y cells slots t lv st S a v f g) : lG p l e s m below meth c b D Y cells slots pc lv (.int x :: st) S a v f g := fun H locs ls hP hD hS hl => lv_tableOut C.1 C.2.1 d h ht (kk H locs ls hP hD hS hl)
theorem lq_laload (C : lC p l s m meth c b L xs D Y tp dp) {q : Nat} (k : Nat) (ha : q ∈ cL S) (hK' : cK S q = 15) (hk : k < cn S q) (hN : cn S q < 2 ^ 31) (d : decode code pc = .ok (.laload, 1)) (kk : lG p l e s m below meth c b D Y cells slots (pc + 1) lv (.long (cJ S q k) :: st) S a v f g) : lG p l e s m below meth c b D Y cells slots pc lv (.int (nI k) :: .ref q :: st) S a v f g := by
  intro H locs ls hP hD hS hlv
  obtain ⟨hx, hb, hml, hown, hts, hK, hlo, hr, hX, hbl, hlt, hE⟩ := C
  obtain ⟨i, hq⟩ := cWd_at (Y := Y) ha
  rw [cE_J hK'] at hq
  have hq2 : (lWd Y S a v f g)[i]? = some (q, .inl (Y.2.2.1, cn S q, .inr (.inl (cJ S q)))) := by rw [List.getElem?_append_left (List.getElem?_eq_some_iff.mp hq).1]; exact hq
  refine va_lald hx hb hK hP i 2 hq2 rfl (vp_in_nI hk hN) d ?_
  rw [nI_clamp (Nat.lt_trans hk hN)]
  exact kk H locs ls hP hD hS hlv
theorem lq_end (C : lC p l s m meth c b L xs D Y tp dp) (hc : cells ≤ 601024) (hs : slots ≤ 7293033) (d : decode code pc = .ok (.ireturn, 1)) : lG p l e s m below meth c b D Y cells slots pc lv [.int 1] S a v f g := by
  intro H locs ls hP hD hS hlv
  obtain ⟨hx, hb, hml, hown, hts, hK, hlo, hr, hX, hbl, hlt, hE⟩ := C
  exact va_forget (fun q hq => hS.2.2 q hq) (W.widen (Nat.le_trans hc rm_1.1) (Nat.le_trans hs rm_1.2) (lw_ret hx hb hr hlo d))
theorem l_free1 {H : Heap} {locs : List Loc} (hD : va_D (lA s) (lWd Y S a v f g)) (hS : va_S (lA s) s.heap H locs) : ∀ q, va_A (cWd Y S) H.size q → lA s q := fun q h => by
  rcases h with ⟨k, e, h⟩ | h
  · exact (vD_l hD).2 k _ h
  · exact Nat.le_trans hS.1 h
theorem l_free2 {H : Heap} {locs : List Loc} (hD : va_D (lA s) (lWd Y S a v f g)) (hS : va_S (lA s) s.heap H locs) : ∀ q, va_A (mW Y.2.1 Y.2.2.1 Y.2.2.2.1 a v f g) H.size q → lA s q := fun q h => by
  rcases h with ⟨k, e, h⟩ | h
  · exact (vD_r hD).2 k _ h
  · exact Nat.le_trans hS.1 h
theorem l_pre {H : Heap} {locs : List Loc} {av : List Value} (C : lC p l s m meth c b L xs D Y tp dp) (hP : va_P D vwCl (lWd Y S a v f g) H) (hD : va_D (lA s) (lWd Y S a v f g)) (hS : va_S (lA s) s.heap H locs) : FrameBlind (va_Pc av (cPre D Y tp dp S H.size)) ∧ ∀ U : State, U.heap = H → s.WarmedH U.vm → va_Pc av (cPre D Y tp dp S H.size) av.toArray U := by
  obtain ⟨hx, hb, hml, hown, hts, hK, hlo, hr, hX, hbl, hlt, hE⟩ := C
  refine ⟨fun a' U g' mk q => ?_, fun U hU hW => ?_⟩
  · obtain ⟨q0, q1, qP, qK, qD, qE⟩ := q
    exact ⟨q0, q1, qP, va_K.moved (u := U) (U := U.calling g' mk a') (Vm.Alike.refl U.vm) qK, qD, qE.same a' g' mk⟩
  · exact ⟨rfl, by rw [hU], by rw [hU]; exact vP_l hP, va_K.moved hW.alike hK, (vD_l hD).weaken (fun _ _ _ _ => trivial), by rw [hU]; exact hE.go hW hS (l_free1 hD hS)⟩
/-- a helper of the law's own, over the class's world -/
theorem lq_callW (C : lC p l s m meth c b L xs D Y tp dp) {y : MethodName} {cc' : ByteArray} {nL' idx n fr mc ms lo : Nat} {hh : List (Nat × Nat × Nat × Nat)} {ret' : Option FieldType} {As : List Value} {stk : List Value} {post : Int32 → cS → Prop} (hM : cMetW (cQi post) l y cc' nL' ret' hh fr mc ms lo As S dp) (hc : (Cond.methodLink RL idx y ∈ cWs ∧ Cond.static y ∈ cWs ∧ Cond.initialized y.cls ∈ cWs) ∧ Cond.codeWith y cc' nL' ret' hh ∈ cWs ∧ (parseMethodDescriptor y.desc).map (fun d => d.parameters.length) = some n) (hy : y.cls = RL) (hn : As.length = n) (hR : fr + 1 ≤ 2048 ∧ 8 + (nL' + 11) + lo ≤ 84000) (hm : cells + mc ≤ 601024 ∧ slots + ms ≤ 7293033) (hst : stk = As.reverse ++ st) (hsz : (st.map fun v => v.category).sum ≤ 8) (d : decode code pc = .ok (.invokestatic idx, 3)) (kk : ∀ (r : Int32) (S' : cS), post r S' → lG p l e s m below meth c b D Y (cells + mc) (slots + ms) (pc + 3) lv (.int r :: st) S' a v f g) : lG p l e s m below meth c b D Y cells slots pc lv stk S a v f g := by
  intro H locs ls hP hD hS hlv
  have hp := l_pre (av := As) C hP hD hS
  obtain ⟨hx, hb, hml, hown, hts, hK, hlo, hr, hX, hbl, hlt, hE⟩ := C
  have hF := l_free1 hD hS
  have htc : ∀ w ∈ cWs, w.before #[Value.ref b] s = true := fun w h => hts w (cWs_tbl w h)
  obtain ⟨⟨h1, h2, h3⟩, h4, h5⟩ := hc
  have hG : GoodIn cWs (va_wsS RL idx y (Cond.codeWith y cc' nL' ret' hh :: cWs)) := by
    intro w hw
    unfold va_wsS at hw
    rcases List.mem_append.mp hw with hw | hw
    · rcases List.mem_cons.mp hw with rfl | hw
      · exact cWs_good _ h1
      rcases List.mem_cons.mp hw with rfl | hw
      · exact cWs_good _ h2
      rcases List.mem_cons.mp hw with rfl | hw
      · exact cWs_good _ h3
      exact nomatch hw
    · rcases List.mem_cons.mp hw with rfl | hw
      · exact cWs_good _ h4
      · exact cWs_good _ hw
  have cw : vx_CSW room_1 s #[Value.ref b] RL idx y cc' nL' ret' hh (Cond.codeWith y cc' nL' ret' hh :: cWs) (cRm fr mc ms lo) mc ms n := vx_cwSW n htc hG rfl rfl rfl ⟨by rw [hy]; decide, by rw [hy]; decide, h5⟩ hR
  refine va_calli (vx_runSW (As := As) (rest := st) (Ts := cWs) ⟨hx, hb, hml, hown, htc⟩ (hM D Y tp H.size) cw hp rfl hn hlv.1 hst (lv_room hsz) d (rm_of hm)) hS (fun q _ h => hF q h) hF (fun r u t H1 locs1 ht hvm hw hB hz1 hk1 hS1 => ?_)
  obtain ⟨hP1, hK1, hD1⟩ := hB
  rw [ht] at hP1
  obtain ⟨j1, j2⟩ := v_join_l hP hD hk1 hF hP1 hD1
  exact kk r u hw H1 locs1 ls j1 j2 hS1 hlv
/-- a method of the class, straight -/
theorem lq_callC (C : lC p l s m meth c b L xs D Y tp dp) {y : MethodName} {cc' : ByteArray} {nL' idx n fr mc ms lo q k NN : Nat} {T : u_T} {ret' : Option FieldType} {As : List Value} {stk : List Value} {post : Int32 → cS → Prop} (hM : cMet (cQi post) l y cc' nL' ret' fr mc ms lo (.ref q :: As) S dp) (hc : cCal false RL idx y cc' nL' ret' n) (ha : q ∈ cL S) (hK' : cK S q = k) (hk : k < 13) (hcl : vwCl[kC k]? = some (y.cls, T, NN)) (hn : As.length = n) (hR : fr + 1 ≤ 2048 ∧ 8 + (nL' + 11) + lo ≤ 84000) (hm : cells + mc ≤ 601024 ∧ slots + ms ≤ 7293033) (hst : stk = As.reverse ++ .ref q :: st) (hsz : (st.map fun v => v.category).sum ≤ 8) (d : decode code pc = .ok (.invokevirtual idx, 3)) (kk : ∀ (r : Int32) (S' : cS), post r S' → lG p l e s m below meth c b D Y (cells + mc) (slots + ms) (pc + 3) lv (.int r :: st) S' a v f g) : lG p l e s m below meth c b D Y cells slots pc lv stk S a v f g := by
  intro H locs ls hP hD hS hlv
  have hp := l_pre (av := .ref q :: As) C hP hD hS
  obtain ⟨hx, hb, hml, hown, hts, hK, hlo, hr, hX, hbl, hlt, hE⟩ := C
  have hF := l_free1 hD hS
  have htc : ∀ w ∈ cWs, w.before #[Value.ref b] s = true := fun w h => hts w (cWs_tbl w h)
  obtain ⟨h1, h2, h3, h4, h5, h6⟩ := hc
  have hb1 : CallB room_1 s #[Value.ref b] RL idx y cc' nL' ret' (Cond.code y cc' nL' ret' :: cWs) (cRm fr mc ms lo) mc ms n := callB_of n htc (ccal_good h5) rfl rfl rfl (htc _ h3) (htc _ h2) ⟨h1.1, h1.2, h6⟩ hR
  refine va_calli (va_runV (As := As) (rest := st) (C := y.cls) (Ts := cWs) ⟨hx, hb, hml, hown, htc⟩ (hM D Y tp H.size) ⟨hb1, htc _ h4.1, htc _ h4.2⟩ ⟨hp.1, c_recv hK (vP_l hP) ha hK' hk hcl, hp.2⟩ rfl hn hlv.1 hst (lv_room hsz) d (rm_of hm)) hS (fun q _ h => hF q h) hF (fun r u t H1 locs1 ht hvm hw hB hz1 hk1 hS1 => ?_)
  obtain ⟨hP1, hK1, hD1⟩ := hB
  rw [ht] at hP1
  obtain ⟨j1, j2⟩ := v_join_l hP hD hk1 hF hP1 hD1
  exact kk r u hw H1 locs1 ls j1 j2 hS1 hlv
theorem l_kept {cI cJ cZ : ClassId} {a : Nat → Nat} {v v' : Nat → Int32} {f f' : Nat → Nat → Int32} {g g' : Nat → Nat → Int64} {sz : Nat} (hD : va_D (lA s) (mW cI cJ cZ a v f g)) : va_D (va_A (mW cI cJ cZ a v f g) sz) (mW cI cJ cZ a v' f' g') := mW_D (hD.self)
theorem lq_callM (C : lC p l s m meth c b L xs D Y tp dp) {y : MethodName} {cc' : ByteArray} {nL' idx n fr lo : Nat} {ret' : Option FieldType} {As : List Value} {stk : List Value} {post : Int32 → mS → Prop} (hM : mMi l y cc' nL' ret' fr lo false As v f g post) (hc : (Cond.methodLink RL idx y ∈ lWs ∧ Cond.instanceMethod y ∈ lWs ∧ Cond.selects RX12 y y ∈ lWs) ∧ Cond.code y cc' nL' ret' ∈ mWs ∧ (parseMethodDescriptor y.desc).map (fun d => d.parameters.length) = some n) (hy : y.cls = RX12) (hn : As.length = n) (hR : fr + 1 ≤ 2048 ∧ 8 + (nL' + 11) + lo ≤ 84000) (hm : cells ≤ 601024 ∧ slots ≤ 7293033) (hst : stk = As.reverse ++ .ref (a 0) :: st) (hsz : (st.map fun v => v.category).sum ≤ 8) (d : decode code pc = .ok (.invokevirtual idx, 3)) (kk : ∀ (r : Int32) (v' : Nat → Int32) (f' : Nat → Nat → Int32) (g' : Nat → Nat → Int64), post r (v', f', g') → lG p l e s m below meth c b D Y cells slots (pc + 3) lv (.int r :: st) S a v' f' g') : lG p l e s m below meth c b D Y cells slots pc lv stk S a v f g := by
  intro H locs ls hP hD hS hlv
  obtain ⟨hx, hb, hml, hown, hts, hK, hlo, hr, hX, hbl, hlt, hE⟩ := C
  have hF := l_free2 hD hS
  have htm : ∀ w ∈ mWs, w.before #[Value.ref b] s = true := fun w h => hts w (mWs_tbl w h)
  have htl : ∀ w ∈ lWs, w.before #[Value.ref b] s = true := fun w h => hts w (lWs_tbl w h)
  obtain ⟨⟨h1, h2, h3⟩, h4, h5⟩ := hc
  have hKm : va_K D vwCl (mTys Y.2.1 Y.2.2.1 Y.2.2.2.1) s := hK.sub [1, 2, 3] rfl
  have hG : GoodIn mWs (Cond.code y cc' nL' ret' :: mWs) := by
    intro w hw
    rcases List.mem_cons.mp hw with rfl | hw
    · exact mWs_good _ h4
    · exact mWs_good _ hw
  have hb1 : CallB room_1 s #[Value.ref b] RL idx y cc' nL' ret' (Cond.code y cc' nL' ret' :: mWs) (mRm fr lo) 0 0 n := callB_of n htm hG rfl rfl rfl (by rw [hy]; exact htm _ mWs_ini) (htl _ h1) ⟨by rw [hy]; decide, by rw [hy]; decide, h5⟩ hR
  have hPm := vP_r hP
  have hDm := vD_r hD
  refine va_calli (va_runV (As := As) (rest := st) (C := RX12) (Ts := mWs) ⟨hx, hb, hml, hown, htm⟩ (hM D Y.2.1 Y.2.2.1 Y.2.2.2.1 a H.size) ⟨hb1, htl _ h2, htl _ h3⟩ ⟨(m_pre hKm hPm hDm).1, va_recv hKm hPm (ci := 15) (q0 := 0) rfl mW_0, (m_pre (av := .ref (a 0) :: As) hKm hPm hDm).2⟩ rfl hn hlv.1 hst (lv_room hsz) d (rm_of hm)) hS (fun q _ h => hF q h) hF (fun r u t H1 locs1 ht hvm hw hB hz1 hk1 hS1 => ?_)
  obtain ⟨hP1, hK1⟩ := hB
  rw [ht] at hP1
  obtain ⟨j1, j2⟩ := v_join_r hP hD hk1 hF hP1 (l_kept hDm)
  exact kk r u.1 u.2.1 u.2.2 hw H1 locs1 ls j1 j2 hS1 hlv
theorem lq_callMv (C : lC p l s m meth c b L xs D Y tp dp) {y : MethodName} {cc' : ByteArray} {nL' idx n fr lo : Nat} {ret' : Option FieldType} {As : List Value} {stk : List Value} {post : mS → Prop} (hM : mMv l y cc' nL' ret' fr lo false As v f g post) (hc : (Cond.methodLink RL idx y ∈ lWs ∧ Cond.instanceMethod y ∈ lWs ∧ Cond.selects RX12 y y ∈ lWs) ∧ Cond.code y cc' nL' ret' ∈ mWs ∧ (parseMethodDescriptor y.desc).map (fun d => d.parameters.length) = some n) (hy : y.cls = RX12) (hn : As.length = n) (hR : fr + 1 ≤ 2048 ∧ 8 + (nL' + 11) + lo ≤ 84000) (hm : cells ≤ 601024 ∧ slots ≤ 7293033) (hst : stk = As.reverse ++ .ref (a 0) :: st) (hsz : (st.map fun v => v.category).sum ≤ 8) (d : decode code pc = .ok (.invokevirtual idx, 3)) (kk : ∀ (v' : Nat → Int32) (f' : Nat → Nat → Int32) (g' : Nat → Nat → Int64), post (v', f', g') → lG p l e s m below meth c b D Y cells slots (pc + 3) lv st S a v' f' g') : lG p l e s m below meth c b D Y cells slots pc lv stk S a v f g := by
  intro H locs ls hP hD hS hlv
  obtain ⟨hx, hb, hml, hown, hts, hK, hlo, hr, hX, hbl, hlt, hE⟩ := C
  have hF := l_free2 hD hS
  have htm : ∀ w ∈ mWs, w.before #[Value.ref b] s = true := fun w h => hts w (mWs_tbl w h)
  have htl : ∀ w ∈ lWs, w.before #[Value.ref b] s = true := fun w h => hts w (lWs_tbl w h)
  obtain ⟨⟨h1, h2, h3⟩, h4, h5⟩ := hc
  have hKm : va_K D vwCl (mTys Y.2.1 Y.2.2.1 Y.2.2.2.1) s := hK.sub [1, 2, 3] rfl
  have hG : GoodIn mWs (Cond.code y cc' nL' ret' :: mWs) := by
    intro w hw
    rcases List.mem_cons.mp hw with rfl | hw
    · exact mWs_good _ h4
    · exact mWs_good _ hw
  have hb1 : CallB room_1 s #[Value.ref b] RL idx y cc' nL' ret' (Cond.code y cc' nL' ret' :: mWs) (mRm fr lo) 0 0 n := callB_of n htm hG rfl rfl rfl (by rw [hy]; exact htm _ mWs_ini) (htl _ h1) ⟨by rw [hy]; decide, by rw [hy]; decide, h5⟩ hR
  have hPm := vP_r hP
  have hDm := vD_r hD
  refine va_callv (va_runV (As := As) (rest := st) (C := RX12) (Ts := mWs) ⟨hx, hb, hml, hown, htm⟩ (hM D Y.2.1 Y.2.2.1 Y.2.2.2.1 a H.size) ⟨hb1, htl _ h2, htl _ h3⟩ ⟨(m_pre hKm hPm hDm).1, va_recv hKm hPm (ci := 15) (q0 := 0) rfl mW_0, (m_pre (av := .ref (a 0) :: As) hKm hPm hDm).2⟩ rfl hn hlv.1 hst (lv_room hsz) d (rm_of hm)) hS (fun q _ h => hF q h) hF (fun u t H1 locs1 ht hvm hw hB hz1 hk1 hS1 => ?_)
  obtain ⟨hP1, hK1⟩ := hB
  rw [ht] at hP1
  obtain ⟨j1, j2⟩ := v_join_r hP hD hk1 hF hP1 (l_kept hDm)
  exact kk u.1 u.2.1 u.2.2 hw H1 locs1 ls j1 j2 hS1 hlv
theorem lq_doM (C : lC p l s m meth c b L xs D Y tp dp) {y : MethodName} {cc' : ByteArray} {nL' idx n fr lo : Nat} {ret' : Option FieldType} {As : List Value} {stk : List Value} {x : Int32} {u : mS} (hM : mMi l y cc' nL' ret' fr lo false As v f g (fun r_ u_ => r_ = x ∧ u_ = u)) (hc : (Cond.methodLink RL idx y ∈ lWs ∧ Cond.instanceMethod y ∈ lWs ∧ Cond.selects RX12 y y ∈ lWs) ∧ Cond.code y cc' nL' ret' ∈ mWs ∧ (parseMethodDescriptor y.desc).map (fun d => d.parameters.length) = some n) (hy : y.cls = RX12) (hn : As.length = n) (hR : fr + 1 ≤ 2048 ∧ 8 + (nL' + 11) + lo ≤ 84000) (hm : cells ≤ 601024 ∧ slots ≤ 7293033) (hst : stk = As.reverse ++ .ref (a 0) :: st) (hsz : (st.map fun v => v.category).sum ≤ 8) (d : decode code pc = .ok (.invokevirtual idx, 3)) (kk : lG p l e s m below meth c b D Y cells slots (pc + 3) lv (.int x :: st) S a u.1 u.2.1 u.2.2) : lG p l e s m below meth c b D Y cells slots pc lv stk S a v f g := lq_callM C hM hc hy hn hR hm hst hsz d (fun r v' f' g' h => by
    obtain ⟨rfl, rfl⟩ := h
    exact kk)
theorem lq_doMv (C : lC p l s m meth c b L xs D Y tp dp) {y : MethodName} {cc' : ByteArray} {nL' idx n fr lo : Nat} {ret' : Option FieldType} {As : List Value} {stk : List Value} {u : mS} (hM : mMv l y cc' nL' ret' fr lo false As v f g (fun u_ => u_ = u)) (hc : (Cond.methodLink RL idx y ∈ lWs ∧ Cond.instanceMethod y ∈ lWs ∧ Cond.selects RX12 y y ∈ lWs) ∧ Cond.code y cc' nL' ret' ∈ mWs ∧ (parseMethodDescriptor y.desc).map (fun d => d.parameters.length) = some n) (hy : y.cls = RX12) (hn : As.length = n) (hR : fr + 1 ≤ 2048 ∧ 8 + (nL' + 11) + lo ≤ 84000) (hm : cells ≤ 601024 ∧ slots ≤ 7293033) (hst : stk = As.reverse ++ .ref (a 0) :: st) (hsz : (st.map fun v => v.category).sum ≤ 8) (d : decode code pc = .ok (.invokevirtual idx, 3)) (kk : lG p l e s m below meth c b D Y cells slots (pc + 3) lv st S a u.1 u.2.1 u.2.2) : lG p l e s m below meth c b D Y cells slots pc lv stk S a v f g := lq_callMv C hM hc hy hn hR hm hst hsz d (fun v' f' g' h => by
    cases h
    exact kk)
theorem lq_nm (k : ∀ T, T = S → lG p l e s m below meth c b D Y cells slots pc lv st T a v f g) : lG p l e s m below meth c b D Y cells slots pc lv st S a v f g := k S rfl
/-- a char out of an int -/
theorem c_chr (x : Int32) : ∃ n : Nat, n ≤ 65535 ∧ (x.toUInt32 % 65536).toInt32 = nI n := by
  refine ⟨(x.toUInt32 % 65536).toNat, ?_, ?_⟩
  · have : (x.toUInt32 % 65536).toNat < 65536 := by rw [UInt32.toNat_mod]; exact Nat.mod_lt _ (by decide)
    omega
  · show _ = Int32.ofNat _
    apply Int32.toBitVec_inj.mp
    show (x.toUInt32 % 65536).toBitVec = BitVec.ofNat 32 (x.toUInt32 % 65536).toBitVec.toNat
    exact (BitVec.ofNat_toNat _ _ ▸ (BitVec.setWidth_eq _).symm)
end LG
