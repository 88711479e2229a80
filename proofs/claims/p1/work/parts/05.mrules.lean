/-! rules on naturals and truths; loops -/
def bI (b : Bool) : Int32 := if b then 1 else 0
theorem bI_t : bI true = 1 := rfl
theorem bI_f : bI false = 0 := rfl
theorem bI_0 {b : Bool} : bI b = 0 ↔ b = false := by cases b <;> decide
theorem bI_n {b : Bool} : ¬ bI b = 0 ↔ b = true := by cases b <;> decide
theorem bI_nar (b : Bool) : narrow .boolean (.int (bI b)) = .int (bI b) := by cases b <;> rfl
theorem bI_fit (b : Bool) : fits .boolean (.int (bI b)) = true := by cases b <;> rfl
theorem bI_vp (b : Bool) : vp_nar .boolean (bI b) = bI b := by cases b <;> rfl
theorem bI_and1 (b : Bool) : (bI b) = if b = true then 1 else 0 := by cases b <;> rfl
theorem bI_1 {b : Bool} : bI b = 1 ↔ b = true := by cases b <;> decide
theorem nI_z {x : Nat} (hx : x < 2 ^ 31) : nI x = 0 ↔ x = 0 := by
  rw [← nI_0]; exact nI_eq hx (by omega)
theorem nI_gt0 {x : Nat} (hx : x < 2 ^ 31) : 0 < nI x ↔ 0 < x := by
  rw [← nI_0]; exact nI_ltI (by omega) hx
theorem nI_le0 {x : Nat} (hx : x < 2 ^ 31) : nI x ≤ 0 ↔ x = 0 := by
  rw [← nI_0, nI_leI hx (by omega)]; omega
theorem nI_b1 : nI 1 = bI true := rfl
theorem nI_b0 : nI 0 = bI false := rfl
def anyB (q : Nat → Bool) : Nat → Bool
  | 0 => false
  | n + 1 => anyB q n || q n
theorem anyB_iff {q : Nat → Bool} : ∀ {n : Nat}, anyB q n = true ↔ ∃ j, j < n ∧ q j = true
  | 0 => by simp [anyB]
  | n + 1 => by
    rw [anyB, Bool.or_eq_true, anyB_iff]
    constructor
    · rintro (⟨j, h1, h2⟩ | h)
      · exact ⟨j, by omega, h2⟩
      · exact ⟨n, by omega, h⟩
    · rintro ⟨j, h1, h2⟩
      rcases Nat.lt_or_ge j n with h | h
      · exact Or.inl ⟨j, h, h2⟩
      · have : j = n := by omega
        subst this
        exact Or.inr h2
/-- a row put at a place; a row with one place changed -/
def sR {α : Type} (f : Nat → Nat → α) (J : Nat) (r : Nat → α) : Nat → Nat → α := fun b => if b = J then r else f b
def upR {α : Type} (r : Nat → α) (i : Nat) (x : α) : Nat → α := fun k => if k = i then x else r k
theorem upR_s {α : Type} {r : Nat → α} {i : Nat} {x : α} : upR r i x i = x := if_pos rfl
theorem upR_e {α : Type} {r : Nat → α} {i k : Nat} {x : α} (h : k = i) : upR r i x k = x := if_pos h
theorem upR_n {α : Type} {r : Nat → α} {i k : Nat} {x : α} (h : k ≠ i) : upR r i x k = r k := if_neg h
theorem sR_s {α : Type} {f : Nat → Nat → α} {J : Nat} {r : Nat → α} : sR f J r J = r := if_pos rfl
theorem sR_n {α : Type} {f : Nat → Nat → α} {J b : Nat} {r : Nat → α} (h : b ≠ J) : sR f J r b = f b := if_neg h
theorem sR_id {α : Type} (f : Nat → Nat → α) (J : Nat) : sR f J (f J) = f := by
  funext b; unfold sR; split
  · rename_i h; rw [h]
  · rfl
theorem mU_new {α : Type} {f : Nat → Nat → α} {J i : Nat} {x : α} : mU f J i x = sR f J (upR (f J) i x) := rfl
theorem mU_sR {α : Type} {f : Nat → Nat → α} {J i : Nat} {r : Nat → α} {x : α} : mU (sR f J r) J i x = sR f J (upR r i x) := by
  funext b; unfold mU sR upR
  by_cases h : b = J <;> simp [h]
theorem mU_c {α : Type} {f : Nat → Nat → α} {J K i : Nat} {r : Nat → α} {x : α} (h : J ≠ K) : mU (sR f K r) J i x = sR (mU f J i x) K r := by
  funext b; unfold mU sR
  by_cases h1 : b = J
  · subst h1; simp [h]
  · by_cases h2 : b = K <;> simp [h1, h2] <;> (intro e; exact absurd e.symm h)
theorem sR_sR {α : Type} {f : Nat → Nat → α} {J : Nat} {r q : Nat → α} : sR (sR f J r) J q = sR f J q := by
  funext b; unfold sR
  by_cases h : b = J <;> simp [h]
theorem sR_c {α : Type} {f : Nat → Nat → α} {J K : Nat} {r q : Nat → α} (h : J ≠ K) : sR (sR f K r) J q = sR (sR f J q) K r := by
  funext b; unfold sR
  by_cases h1 : b = J
  · subst h1; simp [h]
  · by_cases h2 : b = K <;> simp [h1, h2] <;> (intro e; exact absurd e.symm h)
theorem upd_s {v : Nat → Int32} {k : Nat} {x y : Int32} : upd (upd v k x) k y = upd v k y := by
  funext b; unfold upd
  by_cases h : b = k <;> simp [h]
theorem upd_c {v : Nat → Int32} {k j : Nat} {x y : Int32} (h : k ≠ j) : upd (upd v j x) k y = upd (upd v k y) j x := by
  funext b; unfold upd
  by_cases h1 : b = k
  · subst h1; simp [h]
  · by_cases h2 : b = j <;> simp [h1, h2] <;> (intro e; exact absurd e.symm h)
theorem upd_id (v : Nat → Int32) (k : Nat) : upd v k (v k) = v := by
  funext b; unfold upd; split
  · rename_i h; rw [h]
  · rfl
theorem upd_e {v : Nat → Int32} {k : Nat} {x : Int32} : upd v k x k = x := if_pos rfl
theorem upd_n {v : Nat → Int32} {k j : Nat} {x : Int32} (h : j ≠ k) : upd v k x j = v j := if_neg h
section MG2
variable {p : Program} {l : Launch} {e : Env} {R : Room} {s : State} {m : MethodId} {args : Array Value} {below : List Frame} {meth : Method} {c : Code} {cc : ByteArray} {nL : Nat} {ret : Option FieldType} {A : Nat → Prop} {D : va_G} {cI cJ cZ : ClassId} {a : Nat → Nat} {Q : State → Prop}
variable {pc : Nat} {lv lv' : List (Nat × Value)} {st : List Value} {v : Nat → Int32} {f : Nat → Nat → Int32} {g : Nat → Nat → Int64}
theorem mg_cast {x : Int32} (y : Int32) (h : x = y) (k : mG p l e R s m args below meth c A D cI cJ cZ a nL Q pc lv (.int y :: st) v f g) : mG p l e R s m args below meth c A D cI cJ cZ a nL Q pc lv (.int x :: st) v f g := by rw [h]; exact k
theorem mg_castL {x : Int64} (y : Int64) (h : x = y) (k : mG p l e R s m args below meth c A D cI cJ cZ a nL Q pc lv (.long y :: st) v f g) : mG p l e R s m args below meth c A D cI cJ cZ a nL Q pc lv (.long x :: st) v f g := by rw [h]; exact k
theorem mg_world {v' : Nat → Int32} {f' : Nat → Nat → Int32} {g' : Nat → Nat → Int64} (hv : v = v') (hf : f = f') (hg : g = g') (k : mG p l e R s m args below meth c A D cI cJ cZ a nL Q pc lv st v' f' g') : mG p l e R s m args below meth c A D cI cJ cZ a nL Q pc lv st v f g := by rw [hv, hf, hg]; exact k
theorem mg_iaddN (C : mC p s m args meth c cc nL ret A D cI cJ cZ) {x y : Nat} (d : decode cc pc = .ok (.iadd, 1)) (k : mG p l e R s m args below meth c A D cI cJ cZ a nL Q (pc + 1) lv (.int (nI (x + y)) :: st) v f g) : mG p l e R s m args below meth c A D cI cJ cZ a nL Q pc lv (.int (nI y) :: .int (nI x) :: st) v f g := mg_iadd C d (by rw [nI_add]; exact k)
theorem mg_imulN (C : mC p s m args meth c cc nL ret A D cI cJ cZ) {x y : Nat} (d : decode cc pc = .ok (.imul, 1)) (k : mG p l e R s m args below meth c A D cI cJ cZ a nL Q (pc + 1) lv (.int (nI (x * y)) :: st) v f g) : mG p l e R s m args below meth c A D cI cJ cZ a nL Q pc lv (.int (nI y) :: .int (nI x) :: st) v f g := mg_imul C d (by rw [pk_mul]; exact k)
theorem mg_isubN (C : mC p s m args meth c cc nL ret A D cI cJ cZ) {x y : Nat} (h : y ≤ x) (d : decode cc pc = .ok (.isub, 1)) (k : mG p l e R s m args below meth c A D cI cJ cZ a nL Q (pc + 1) lv (.int (nI (x - y)) :: st) v f g) : mG p l e R s m args below meth c A D cI cJ cZ a nL Q pc lv (.int (nI y) :: .int (nI x) :: st) v f g := mg_isub C d (by rw [pk_sub h]; exact k)
theorem mg_idivN (C : mC p s m args meth c cc nL ret A D cI cJ cZ) {x y : Nat} (hx : x < 2 ^ 31) (h0 : 0 < y) (hy : y < 2 ^ 31) (d : decode cc pc = .ok (.idiv, 1)) (k : mG p l e R s m args below meth c A D cI cJ cZ a nL Q (pc + 1) lv (.int (nI (x / y)) :: st) v f g) : mG p l e R s m args below meth c A D cI cJ cZ a nL Q pc lv (.int (nI y) :: .int (nI x) :: st) v f g := mg_idiv C (nI_ne0 h0 hy) d (by rw [pk_div hx h0 hy]; exact k)
theorem mg_iremN (C : mC p s m args meth c cc nL ret A D cI cJ cZ) {x y : Nat} (hx : x < 2 ^ 31) (h0 : 0 < y) (hy : y < 2 ^ 31) (d : decode cc pc = .ok (.irem, 1)) (k : mG p l e R s m args below meth c A D cI cJ cZ a nL Q (pc + 1) lv (.int (nI (x % y)) :: st) v f g) : mG p l e R s m args below meth c A D cI cJ cZ a nL Q pc lv (.int (nI y) :: .int (nI x) :: st) v f g := mg_irem C (nI_ne0 h0 hy) d (by rw [pk_rem hx h0 hy]; exact k)
theorem mg_iincN (C : mC p s m args meth c cc nL ret A D cI cJ cZ) {i : Nat} {n : Int} {x : Nat} (z : Nat) (k : Nat) (hk : lv[k]? = some (i, .int (nI x))) (hz : Int32.ofInt n = nI z) (hn : i < nL) (h : (i, Value.int (nI (x + z))) :: lv.filter (fun q => !(q.1 == i) && !(q.1 + 1 == i && q.2.category == 2)) = lv') (d : decode cc pc = .ok (.iinc i n, 3)) (kk : mG p l e R s m args below meth c A D cI cJ cZ a nL Q (pc + 3) lv' st v f g) : mG p l e R s m args below meth c A D cI cJ cZ a nL Q pc lv st v f g := mg_iinc C k hk (by rw [hz, nI_add]) hn h d kk
theorem mg_arr (C : mC p s m args meth c cc nL ret A D cI cJ cZ) {k idx : Nat} (J : Nat) (hJ : 0 < J) (hk : k < 100) (hj : mI.getD k 0 = J) (hl : Cond.fieldLink RX12 idx "SearchMillModel" (TX12 k).2.1 (TX12 k).2.2.1 ∈ mWs) (hR : (TX12 k).1 = "SearchMillModel") (d : decode cc pc = .ok (.getfield idx, 3)) (kk : mG p l e R s m args below meth c A D cI cJ cZ a nL Q (pc + 3) lv (.ref (a J) :: st) v f g) : mG p l e R s m args below meth c A D cI cJ cZ a nL Q pc lv (.ref (a 0) :: st) v f g := by
  obtain ⟨j, rfl⟩ : ∃ j, J = j + 1 := ⟨J - 1, by omega⟩
  exact mg_get C hk hj hl hR d kk
theorem mg_iaload (C : mC p s m args meth c cc nL ret A D cI cJ cZ) {n : Nat} (J k : Nat) (hJ : 0 < J) (hj : J < 65) (ht : mTy.getD J 9 = 0) (hn : mLn.getD J 0 = n) (hk : k < n) (hN : n < 2 ^ 31) (d : decode cc pc = .ok (.iaload, 1)) (kk : mG p l e R s m args below meth c A D cI cJ cZ a nL Q (pc + 1) lv (.int (f J k) :: st) v f g) : mG p l e R s m args below meth c A D cI cJ cZ a nL Q pc lv (.int (nI k) :: .ref (a J) :: st) v f g := by
  obtain ⟨j, rfl⟩ : ∃ j, J = j + 1 := ⟨J - 1, by omega⟩
  exact mg_ialoadA C (by omega) ht hn (vp_in_nI hk hN) d (by rw [nI_clamp (Nat.lt_trans hk hN)]; exact kk)
theorem mg_baload (C : mC p s m args meth c cc nL ret A D cI cJ cZ) {n : Nat} (J k : Nat) (hJ : 0 < J) (hj : J < 65) (ht : mTy.getD J 9 = 2) (hn : mLn.getD J 0 = n) (hk : k < n) (hN : n < 2 ^ 31) (d : decode cc pc = .ok (.baload, 1)) (kk : mG p l e R s m args below meth c A D cI cJ cZ a nL Q (pc + 1) lv (.int (f J k) :: st) v f g) : mG p l e R s m args below meth c A D cI cJ cZ a nL Q pc lv (.int (nI k) :: .ref (a J) :: st) v f g := by
  obtain ⟨j, rfl⟩ : ∃ j, J = j + 1 := ⟨J - 1, by omega⟩
  exact mg_baloadA C (by omega) ht hn (vp_in_nI hk hN) d (by rw [nI_clamp (Nat.lt_trans hk hN)]; exact kk)
theorem mg_laload (C : mC p s m args meth c cc nL ret A D cI cJ cZ) {n : Nat} (J k : Nat) (hJ : 0 < J) (hj : J < 65) (ht : mTy.getD J 9 = 1) (hn : mLn.getD J 0 = n) (hk : k < n) (hN : n < 2 ^ 31) (d : decode cc pc = .ok (.laload, 1)) (kk : mG p l e R s m args below meth c A D cI cJ cZ a nL Q (pc + 1) lv (.long (g J k) :: st) v f g) : mG p l e R s m args below meth c A D cI cJ cZ a nL Q pc lv (.int (nI k) :: .ref (a J) :: st) v f g := by
  obtain ⟨j, rfl⟩ : ∃ j, J = j + 1 := ⟨J - 1, by omega⟩
  exact mg_laloadA C (by omega) ht hn (vp_in_nI hk hN) d (by rw [nI_clamp (Nat.lt_trans hk hN)]; exact kk)
theorem mg_iastore (C : mC p s m args meth c cc nL ret A D cI cJ cZ) {n : Nat} {x : Int32} (J k : Nat) (hJ : 0 < J) (hj : J < 65) (ht : mTy.getD J 9 = 0) (hn : mLn.getD J 0 = n) (hk : k < n) (hN : n < 2 ^ 31) (d : decode cc pc = .ok (.iastore, 1)) (kk : mG p l e R s m args below meth c A D cI cJ cZ a nL Q (pc + 1) lv st v (mU f J k x) g) : mG p l e R s m args below meth c A D cI cJ cZ a nL Q pc lv (.int x :: .int (nI k) :: .ref (a J) :: st) v f g := by
  obtain ⟨j, rfl⟩ : ∃ j, J = j + 1 := ⟨J - 1, by omega⟩
  exact mg_iastoreA C (by omega) ht hn (vp_in_nI hk hN) d (by rw [nI_clamp (Nat.lt_trans hk hN)]; exact kk)
theorem mg_bastore (C : mC p s m args meth c cc nL ret A D cI cJ cZ) {n : Nat} {x : Int32} (J k : Nat) (hJ : 0 < J) (hj : J < 65) (ht : mTy.getD J 9 = 2) (hn : mLn.getD J 0 = n) (hk : k < n) (hN : n < 2 ^ 31) (hx2 : vp_nar .boolean x = x) (d : decode cc pc = .ok (.bastore, 1)) (kk : mG p l e R s m args below meth c A D cI cJ cZ a nL Q (pc + 1) lv st v (mU f J k x) g) : mG p l e R s m args below meth c A D cI cJ cZ a nL Q pc lv (.int x :: .int (nI k) :: .ref (a J) :: st) v f g := by
  obtain ⟨j, rfl⟩ : ∃ j, J = j + 1 := ⟨J - 1, by omega⟩
  exact mg_bastoreA C (by omega) ht hn (vp_in_nI hk hN) hx2 d (by rw [nI_clamp (Nat.lt_trans hk hN)]; exact kk)
theorem mg_lastore (C : mC p s m args meth c cc nL ret A D cI cJ cZ) {n : Nat} {x : Int64} (J k : Nat) (hJ : 0 < J) (hj : J < 65) (ht : mTy.getD J 9 = 1) (hn : mLn.getD J 0 = n) (hk : k < n) (hN : n < 2 ^ 31) (d : decode cc pc = .ok (.lastore, 1)) (kk : mG p l e R s m args below meth c A D cI cJ cZ a nL Q (pc + 1) lv st v f (mU g J k x)) : mG p l e R s m args below meth c A D cI cJ cZ a nL Q pc lv (.long x :: .int (nI k) :: .ref (a J) :: st) v f g := by
  obtain ⟨j, rfl⟩ : ∃ j, J = j + 1 := ⟨J - 1, by omega⟩
  exact mg_lastoreA C (by omega) ht hn (vp_in_nI hk hN) d (by rw [nI_clamp (Nat.lt_trans hk hN)]; exact kk)
theorem mg_icmp_eqN (C : mC p s m args meth c cc nL ret A D cI cJ cZ) {x y : Nat} {off : Int} (hx : x < 2 ^ 31) (hy : y < 2 ^ 31) (t : Nat) (ht : (pc : Int) + off = (t : Int)) (d : decode cc pc = .ok (.if_icmp .eq off, 3)) (kt : x = y → mG p l e R s m args below meth c A D cI cJ cZ a nL Q t lv st v f g) (kf : ¬ x = y → mG p l e R s m args below meth c A D cI cJ cZ a nL Q (pc + 3) lv st v f g) : mG p l e R s m args below meth c A D cI cJ cZ a nL Q pc lv (.int (nI y) :: .int (nI x) :: st) v f g := mg_icmp_eq C t ht d (fun q => kt ((nI_eq hx hy).mp q)) (fun q => kf (fun z => q ((nI_eq hx hy).mpr z)))
theorem mg_icmp_neN (C : mC p s m args meth c cc nL ret A D cI cJ cZ) {x y : Nat} {off : Int} (hx : x < 2 ^ 31) (hy : y < 2 ^ 31) (t : Nat) (ht : (pc : Int) + off = (t : Int)) (d : decode cc pc = .ok (.if_icmp .ne off, 3)) (kt : ¬ x = y → mG p l e R s m args below meth c A D cI cJ cZ a nL Q t lv st v f g) (kf : x = y → mG p l e R s m args below meth c A D cI cJ cZ a nL Q (pc + 3) lv st v f g) : mG p l e R s m args below meth c A D cI cJ cZ a nL Q pc lv (.int (nI y) :: .int (nI x) :: st) v f g := mg_icmp_ne C t ht d (fun q => kt (fun z => q ((nI_eq hx hy).mpr z))) (fun q => kf ((nI_eq hx hy).mp q))
theorem mg_icmp_ltN (C : mC p s m args meth c cc nL ret A D cI cJ cZ) {x y : Nat} {off : Int} (hx : x < 2 ^ 31) (hy : y < 2 ^ 31) (t : Nat) (ht : (pc : Int) + off = (t : Int)) (d : decode cc pc = .ok (.if_icmp .lt off, 3)) (kt : x < y → mG p l e R s m args below meth c A D cI cJ cZ a nL Q t lv st v f g) (kf : y ≤ x → mG p l e R s m args below meth c A D cI cJ cZ a nL Q (pc + 3) lv st v f g) : mG p l e R s m args below meth c A D cI cJ cZ a nL Q pc lv (.int (nI y) :: .int (nI x) :: st) v f g := mg_icmp_lt C t ht d (fun q => kt ((nI_ltI hx hy).mp q)) (fun q => kf (by have z := mt (nI_ltI hx hy).mpr q; omega))
theorem mg_icmp_geN (C : mC p s m args meth c cc nL ret A D cI cJ cZ) {x y : Nat} {off : Int} (hx : x < 2 ^ 31) (hy : y < 2 ^ 31) (t : Nat) (ht : (pc : Int) + off = (t : Int)) (d : decode cc pc = .ok (.if_icmp .ge off, 3)) (kt : y ≤ x → mG p l e R s m args below meth c A D cI cJ cZ a nL Q t lv st v f g) (kf : x < y → mG p l e R s m args below meth c A D cI cJ cZ a nL Q (pc + 3) lv st v f g) : mG p l e R s m args below meth c A D cI cJ cZ a nL Q pc lv (.int (nI y) :: .int (nI x) :: st) v f g := mg_icmp_ge C t ht d (fun q => kt ((nI_leI hy hx).mp q)) (fun q => kf (by have z := mt (nI_leI hy hx).mpr q; omega))
theorem mg_icmp_gtN (C : mC p s m args meth c cc nL ret A D cI cJ cZ) {x y : Nat} {off : Int} (hx : x < 2 ^ 31) (hy : y < 2 ^ 31) (t : Nat) (ht : (pc : Int) + off = (t : Int)) (d : decode cc pc = .ok (.if_icmp .gt off, 3)) (kt : y < x → mG p l e R s m args below meth c A D cI cJ cZ a nL Q t lv st v f g) (kf : x ≤ y → mG p l e R s m args below meth c A D cI cJ cZ a nL Q (pc + 3) lv st v f g) : mG p l e R s m args below meth c A D cI cJ cZ a nL Q pc lv (.int (nI y) :: .int (nI x) :: st) v f g := mg_icmp_gt C t ht d (fun q => kt ((nI_ltI hy hx).mp q)) (fun q => kf (by have z := mt (nI_ltI hy hx).mpr q; omega))
theorem mg_icmp_leN (C : mC p s m args meth c cc nL ret A D cI cJ cZ) {x y : Nat} {off : Int} (hx : x < 2 ^ 31) (hy : y < 2 ^ 31) (t : Nat) (ht : (pc : Int) + off = (t : Int)) (d : decode cc pc = .ok (.if_icmp .le off, 3)) (kt : x ≤ y → mG p l e R s m args below meth c A D cI cJ cZ a nL Q t lv st v f g) (kf : y < x → mG p l e R s m args below meth c A D cI cJ cZ a nL Q (pc + 3) lv st v f g) : mG p l e R s m args below meth c A D cI cJ cZ a nL Q pc lv (.int (nI y) :: .int (nI x) :: st) v f g := mg_icmp_le C t ht d (fun q => kt ((nI_leI hx hy).mp q)) (fun q => kf (by have z := mt (nI_leI hx hy).mpr q; omega))
theorem mg_if_eqN (C : mC p s m args meth c cc nL ret A D cI cJ cZ) {x : Nat} {off : Int} (hx : x < 2 ^ 31) (t : Nat) (ht : (pc : Int) + off = (t : Int)) (d : decode cc pc = .ok (.ifCond .eq off, 3)) (kt : x = 0 → mG p l e R s m args below meth c A D cI cJ cZ a nL Q t lv st v f g) (kf : 0 < x → mG p l e R s m args below meth c A D cI cJ cZ a nL Q (pc + 3) lv st v f g) : mG p l e R s m args below meth c A D cI cJ cZ a nL Q pc lv (.int (nI x) :: st) v f g := mg_if_eq C t ht d (fun q => kt ((nI_z hx).mp q)) (fun q => kf (Nat.pos_of_ne_zero (mt (nI_z hx).mpr q)))
theorem mg_if_neN (C : mC p s m args meth c cc nL ret A D cI cJ cZ) {x : Nat} {off : Int} (hx : x < 2 ^ 31) (t : Nat) (ht : (pc : Int) + off = (t : Int)) (d : decode cc pc = .ok (.ifCond .ne off, 3)) (kt : 0 < x → mG p l e R s m args below meth c A D cI cJ cZ a nL Q t lv st v f g) (kf : x = 0 → mG p l e R s m args below meth c A D cI cJ cZ a nL Q (pc + 3) lv st v f g) : mG p l e R s m args below meth c A D cI cJ cZ a nL Q pc lv (.int (nI x) :: st) v f g := mg_if_ne C t ht d (fun q => kt (Nat.pos_of_ne_zero (mt (nI_z hx).mpr q))) (fun q => kf ((nI_z hx).mp q))
theorem mg_if_gtN (C : mC p s m args meth c cc nL ret A D cI cJ cZ) {x : Nat} {off : Int} (hx : x < 2 ^ 31) (t : Nat) (ht : (pc : Int) + off = (t : Int)) (d : decode cc pc = .ok (.ifCond .gt off, 3)) (kt : 0 < x → mG p l e R s m args below meth c A D cI cJ cZ a nL Q t lv st v f g) (kf : x = 0 → mG p l e R s m args below meth c A D cI cJ cZ a nL Q (pc + 3) lv st v f g) : mG p l e R s m args below meth c A D cI cJ cZ a nL Q pc lv (.int (nI x) :: st) v f g := mg_if_gt C t ht d (fun q => kt ((nI_gt0 hx).mp q)) (fun q => kf (Nat.eq_zero_of_not_pos (mt (nI_gt0 hx).mpr q)))
theorem mg_if_leN (C : mC p s m args meth c cc nL ret A D cI cJ cZ) {x : Nat} {off : Int} (hx : x < 2 ^ 31) (t : Nat) (ht : (pc : Int) + off = (t : Int)) (d : decode cc pc = .ok (.ifCond .le off, 3)) (kt : x = 0 → mG p l e R s m args below meth c A D cI cJ cZ a nL Q t lv st v f g) (kf : 0 < x → mG p l e R s m args below meth c A D cI cJ cZ a nL Q (pc + 3) lv st v f g) : mG p l e R s m args below meth c A D cI cJ cZ a nL Q pc lv (.int (nI x) :: st) v f g := mg_if_le C t ht d (fun q => kt ((nI_le0 hx).mp q)) (fun q => kf (Nat.pos_of_ne_zero (mt (nI_le0 hx).mpr q)))
theorem mg_if_ltN (C : mC p s m args meth c cc nL ret A D cI cJ cZ) {x : Nat} {off : Int} (hx : x < 2 ^ 31) (t : Nat) (ht : (pc : Int) + off = (t : Int)) (d : decode cc pc = .ok (.ifCond .lt off, 3)) (kf : mG p l e R s m args below meth c A D cI cJ cZ a nL Q (pc + 3) lv st v f g) : mG p l e R s m args below meth c A D cI cJ cZ a nL Q pc lv (.int (nI x) :: st) v f g := mg_if_lt C t ht d (fun q => absurd q (nI_pos hx)) (fun _ => kf)
theorem mg_if_geN (C : mC p s m args meth c cc nL ret A D cI cJ cZ) {x : Nat} {off : Int} (hx : x < 2 ^ 31) (t : Nat) (ht : (pc : Int) + off = (t : Int)) (d : decode cc pc = .ok (.ifCond .ge off, 3)) (kt : mG p l e R s m args below meth c A D cI cJ cZ a nL Q t lv st v f g) : mG p l e R s m args below meth c A D cI cJ cZ a nL Q pc lv (.int (nI x) :: st) v f g := mg_if_ge C t ht d (fun _ => kt) (fun q => absurd (nI_pos' hx) q)
theorem mg_if_eqB (C : mC p s m args meth c cc nL ret A D cI cJ cZ) {b : Bool} {off : Int} (t : Nat) (ht : (pc : Int) + off = (t : Int)) (d : decode cc pc = .ok (.ifCond .eq off, 3)) (kt : b = false → mG p l e R s m args below meth c A D cI cJ cZ a nL Q t lv st v f g) (kf : b = true → mG p l e R s m args below meth c A D cI cJ cZ a nL Q (pc + 3) lv st v f g) : mG p l e R s m args below meth c A D cI cJ cZ a nL Q pc lv (.int (bI b) :: st) v f g := mg_if_eq C t ht d (fun q => kt (bI_0.mp q)) (fun q => kf (bI_n.mp q))
theorem mg_if_neB (C : mC p s m args meth c cc nL ret A D cI cJ cZ) {b : Bool} {off : Int} (t : Nat) (ht : (pc : Int) + off = (t : Int)) (d : decode cc pc = .ok (.ifCond .ne off, 3)) (kt : b = true → mG p l e R s m args below meth c A D cI cJ cZ a nL Q t lv st v f g) (kf : b = false → mG p l e R s m args below meth c A D cI cJ cZ a nL Q (pc + 3) lv st v f g) : mG p l e R s m args below meth c A D cI cJ cZ a nL Q pc lv (.int (bI b) :: st) v f g := mg_if_ne C t ht d (fun q => kt (bI_n.mp q)) (fun q => kf (bI_0.mp q))
theorem mg_if_eqL (C : mC p s m args meth c cc nL ret A D cI cJ cZ) {x y : Int64} {off : Int} (t : Nat) (ht : (pc : Int) + off = (t : Int)) (d : decode cc pc = .ok (.ifCond .eq off, 3)) (kt : x = y → mG p l e R s m args below meth c A D cI cJ cZ a nL Q t lv st v f g) (kf : ¬ x = y → mG p l e R s m args below meth c A D cI cJ cZ a nL Q (pc + 3) lv st v f g) : mG p l e R s m args below meth c A D cI cJ cZ a nL Q pc lv (.int (lg_cmp x y) :: st) v f g := mg_if_eq C t ht d (fun q => kt ((lg_cmp_eq x y).mp q)) (fun q => kf (fun z => q ((lg_cmp_eq x y).mpr z)))
theorem mg_if_neL (C : mC p s m args meth c cc nL ret A D cI cJ cZ) {x y : Int64} {off : Int} (t : Nat) (ht : (pc : Int) + off = (t : Int)) (d : decode cc pc = .ok (.ifCond .ne off, 3)) (kt : ¬ x = y → mG p l e R s m args below meth c A D cI cJ cZ a nL Q t lv st v f g) (kf : x = y → mG p l e R s m args below meth c A D cI cJ cZ a nL Q (pc + 3) lv st v f g) : mG p l e R s m args below meth c A D cI cJ cZ a nL Q pc lv (.int (lg_cmp x y) :: st) v f g := mg_if_ne C t ht d (fun q => kt (fun z => q ((lg_cmp_eq x y).mpr z))) (fun q => kf ((lg_cmp_eq x y).mp q))
theorem mg_if_ltL (C : mC p s m args meth c cc nL ret A D cI cJ cZ) {x y : Int64} {off : Int} (t : Nat) (ht : (pc : Int) + off = (t : Int)) (d : decode cc pc = .ok (.ifCond .lt off, 3)) (kt : x < y → mG p l e R s m args below meth c A D cI cJ cZ a nL Q t lv st v f g) (kf : ¬ x < y → mG p l e R s m args below meth c A D cI cJ cZ a nL Q (pc + 3) lv st v f g) : mG p l e R s m args below meth c A D cI cJ cZ a nL Q pc lv (.int (lg_cmp x y) :: st) v f g := mg_if_lt C t ht d (fun q => kt ((lg_cmp_lt x y).mp q)) (fun q => kf (fun z => q ((lg_cmp_lt x y).mpr z)))
theorem mg_if_geL (C : mC p s m args meth c cc nL ret A D cI cJ cZ) {x y : Int64} {off : Int} (t : Nat) (ht : (pc : Int) + off = (t : Int)) (d : decode cc pc = .ok (.ifCond .ge off, 3)) (kt : y ≤ x → mG p l e R s m args below meth c A D cI cJ cZ a nL Q t lv st v f g) (kf : ¬ y ≤ x → mG p l e R s m args below meth c A D cI cJ cZ a nL Q (pc + 3) lv st v f g) : mG p l e R s m args below meth c A D cI cJ cZ a nL Q pc lv (.int (lg_cmp x y) :: st) v f g := mg_if_ge C t ht d (fun q => kt ((lg_cmp_ge x y).mp q)) (fun q => kf (fun z => q ((lg_cmp_ge x y).mpr z)))
theorem mg_if_gtL (C : mC p s m args meth c cc nL ret A D cI cJ cZ) {x y : Int64} {off : Int} (t : Nat) (ht : (pc : Int) + off = (t : Int)) (d : decode cc pc = .ok (.ifCond .gt off, 3)) (kt : y < x → mG p l e R s m args below meth c A D cI cJ cZ a nL Q t lv st v f g) (kf : ¬ y < x → mG p l e R s m args below meth c A D cI cJ cZ a nL Q (pc + 3) lv st v f g) : mG p l e R s m args below meth c A D cI cJ cZ a nL Q pc lv (.int (lg_cmp x y) :: st) v f g := mg_if_gt C t ht d (fun q => kt ((lg_cmp_gt x y).mp q)) (fun q => kf (fun z => q ((lg_cmp_gt x y).mpr z)))
theorem mg_if_leL (C : mC p s m args meth c cc nL ret A D cI cJ cZ) {x y : Int64} {off : Int} (t : Nat) (ht : (pc : Int) + off = (t : Int)) (d : decode cc pc = .ok (.ifCond .le off, 3)) (kt : x ≤ y → mG p l e R s m args below meth c A D cI cJ cZ a nL Q t lv st v f g) (kf : ¬ x ≤ y → mG p l e R s m args below meth c A D cI cJ cZ a nL Q (pc + 3) lv st v f g) : mG p l e R s m args below meth c A D cI cJ cZ a nL Q pc lv (.int (lg_cmp x y) :: st) v f g := mg_if_le C t ht d (fun q => kt ((lg_cmp_le x y).mp q)) (fun q => kf (fun z => q ((lg_cmp_le x y).mpr z)))
theorem mg_doi (C : mC p s m args meth c cc nL ret A D cI cJ cZ) {y : MethodName} {cc' : ByteArray} {nL' idx n fr lo F L : Nat} {ret' : Option FieldType} {As : List Value} {stk : List Value} {x : Int32} {u : mS} (hM : mMi l y cc' nL' ret' fr lo false As v f g (fun r w => r = x ∧ w = u)) (hc : mCal false idx y cc' nL' ret' n) (hn : As.length = n) (hR : fr + 1 ≤ F ∧ 8 + (nL' + 11) + lo ≤ L) (hst : stk = As.reverse ++ .ref (a 0) :: st) (hsz : (st.map fun v => v.category).sum ≤ 8) (d : decode cc pc = .ok (.invokevirtual idx, 3)) (kk : mG p l e (mRm F L) s m args below meth c A D cI cJ cZ a nL Q (pc + 3) lv (.int x :: st) u.1 u.2.1 u.2.2) : mG p l e (mRm F L) s m args below meth c A D cI cJ cZ a nL Q pc lv stk v f g := mg_calli C hM hc hn hR hst hsz d (fun r v' f' g' h => by
    obtain ⟨rfl, h⟩ := h
    rw [← h] at kk
    exact kk)
theorem mg_dol (C : mC p s m args meth c cc nL ret A D cI cJ cZ) {y : MethodName} {cc' : ByteArray} {nL' idx n fr lo F L : Nat} {ret' : Option FieldType} {As : List Value} {stk : List Value} {x : Int64} {u : mS} (hM : mMl l y cc' nL' ret' fr lo false As v f g (fun r w => r = x ∧ w = u)) (hc : mCal false idx y cc' nL' ret' n) (hn : As.length = n) (hR : fr + 1 ≤ F ∧ 8 + (nL' + 11) + lo ≤ L) (hst : stk = As.reverse ++ .ref (a 0) :: st) (hsz : (st.map fun v => v.category).sum ≤ 8) (d : decode cc pc = .ok (.invokevirtual idx, 3)) (kk : mG p l e (mRm F L) s m args below meth c A D cI cJ cZ a nL Q (pc + 3) lv (.long x :: st) u.1 u.2.1 u.2.2) : mG p l e (mRm F L) s m args below meth c A D cI cJ cZ a nL Q pc lv stk v f g := mg_calll C hM hc hn hR hst hsz d (fun r v' f' g' h => by
    obtain ⟨rfl, h⟩ := h
    rw [← h] at kk
    exact kk)
theorem mg_dosi (C : mC p s m args meth c cc nL ret A D cI cJ cZ) {y : MethodName} {cc' : ByteArray} {nL' idx n fr lo F L : Nat} {ret' : Option FieldType} {As : List Value} {stk : List Value} {x : Int32} {u : mS} (hM : mMi l y cc' nL' ret' fr lo true As v f g (fun r w => r = x ∧ w = u)) (hc : mCal true idx y cc' nL' ret' n) (hn : As.length = n) (hR : fr + 1 ≤ F ∧ 8 + (nL' + 11) + lo ≤ L) (hst : stk = As.reverse ++ st) (hsz : (st.map fun v => v.category).sum ≤ 8) (d : decode cc pc = .ok (.invokestatic idx, 3)) (kk : mG p l e (mRm F L) s m args below meth c A D cI cJ cZ a nL Q (pc + 3) lv (.int x :: st) u.1 u.2.1 u.2.2) : mG p l e (mRm F L) s m args below meth c A D cI cJ cZ a nL Q pc lv stk v f g := mg_callsi C hM hc hn hR hst hsz d (fun r v' f' g' h => by
    obtain ⟨rfl, h⟩ := h
    rw [← h] at kk
    exact kk)
theorem mg_dov (C : mC p s m args meth c cc nL ret A D cI cJ cZ) {y : MethodName} {cc' : ByteArray} {nL' idx n fr lo F L : Nat} {ret' : Option FieldType} {As : List Value} {stk : List Value} {u : mS} (hM : mMv l y cc' nL' ret' fr lo false As v f g (fun w => w = u)) (hc : mCal false idx y cc' nL' ret' n) (hn : As.length = n) (hR : fr + 1 ≤ F ∧ 8 + (nL' + 11) + lo ≤ L) (hst : stk = As.reverse ++ .ref (a 0) :: st) (hsz : (st.map fun v => v.category).sum ≤ 8) (d : decode cc pc = .ok (.invokevirtual idx, 3)) (kk : mG p l e (mRm F L) s m args below meth c A D cI cJ cZ a nL Q (pc + 3) lv st u.1 u.2.1 u.2.2) : mG p l e (mRm F L) s m args below meth c A D cI cJ cZ a nL Q pc lv stk v f g := mg_callv C hM hc hn hR hst hsz d (fun v' f' g' h => by
    rw [← h] at kk
    exact kk)
theorem mg_loop {X : Type} (I : X → Prop) (μ : X → Nat) (LV : X → List (Nat × Value)) (V : X → mS) (x0 : X) (ks : List Nat) (hlv : lv_pick lv ks = LV x0) (hV : V x0 = (v, f, g)) (h0 : I x0) (h : ∀ x, I x → (∀ y, I y → μ y < μ x → mG p l e R s m args below meth c A D cI cJ cZ a nL Q pc (LV y) [] (V y).1 (V y).2.1 (V y).2.2) → mG p l e R s m args below meth c A D cI cJ cZ a nL Q pc (LV x) [] (V x).1 (V x).2.1 (V x).2.2) : mG p l e R s m args below meth c A D cI cJ cZ a nL Q pc lv [] v f g := by
  have key : ∀ (n : Nat) (x : X), I x → μ x < n → mG p l e R s m args below meth c A D cI cJ cZ a nL Q pc (LV x) [] (V x).1 (V x).2.1 (V x).2.2 := by
    intro n
    induction n with
    | zero => intro x _ h2; exact absurd h2 (Nat.not_lt_zero _)
    | succ n ih => intro x h1 h2; exact h x h1 (fun y q1 q2 => ih y q1 (by omega))
  have k := key _ x0 h0 (Nat.lt_succ_self _)
  rw [hV] at k
  exact mg_sub ks hlv k
theorem mg_have {X : Type} (pc' : Nat) (I : X → Prop) (LV : X → List (Nat × Value)) (ST : X → List Value) (V : X → mS) (h : ∀ x, I x → mG p l e R s m args below meth c A D cI cJ cZ a nL Q pc' (LV x) (ST x) (V x).1 (V x).2.1 (V x).2.2) (k : (∀ x, I x → mG p l e R s m args below meth c A D cI cJ cZ a nL Q pc' (LV x) (ST x) (V x).1 (V x).2.1 (V x).2.2) → mG p l e R s m args below meth c A D cI cJ cZ a nL Q pc lv st v f g) : mG p l e R s m args below meth c A D cI cJ cZ a nL Q pc lv st v f g := k h
end MG2
theorem mT_padded : parseFieldDescriptor (TX12 2).2.2.1 = some .int := tyX12_ok 2 (by decide)
theorem mT_worded : parseFieldDescriptor (TX12 4).2.2.1 = some .int := tyX12_ok 4 (by decide)
theorem mT_stopped : parseFieldDescriptor (TX12 6).2.2.1 = some .int := tyX12_ok 6 (by decide)
theorem mT_synonyms : parseFieldDescriptor (TX12 9).2.2.1 = some .int := tyX12_ok 9 (by decide)
theorem mT_added : parseFieldDescriptor (TX12 10).2.2.1 = some .boolean := tyX12_ok 10 (by decide)
theorem mT_draftCategory : parseFieldDescriptor (TX12 13).2.2.1 = some .int := tyX12_ok 13 (by decide)
theorem mT_draftNumber : parseFieldDescriptor (TX12 14).2.2.1 = some .int := tyX12_ok 14 (by decide)
theorem mT_buffered : parseFieldDescriptor (TX12 20).2.2.1 = some .int := tyX12_ok 20 (by decide)
theorem mT_documents : parseFieldDescriptor (TX12 26).2.2.1 = some .int := tyX12_ok 26 (by decide)
theorem mT_made : parseFieldDescriptor (TX12 29).2.2.1 = some .int := tyX12_ok 29 (by decide)
theorem mT_indexed : parseFieldDescriptor (TX12 34).2.2.1 = some .int := tyX12_ok 34 (by decide)
theorem mT_isCommitted : parseFieldDescriptor (TX12 35).2.2.1 = some .boolean := tyX12_ok 35 (by decide)
theorem mT_committedMany : parseFieldDescriptor (TX12 37).2.2.1 = some .int := tyX12_ok 37 (by decide)
theorem mT_commits : parseFieldDescriptor (TX12 39).2.2.1 = some .int := tyX12_ok 39 (by decide)
theorem mT_isPrepared : parseFieldDescriptor (TX12 40).2.2.1 = some .boolean := tyX12_ok 40 (by decide)
theorem mT_preparedMany : parseFieldDescriptor (TX12 42).2.2.1 = some .int := tyX12_ok 42 (by decide)
theorem mT_looks : parseFieldDescriptor (TX12 48).2.2.1 = some .int := tyX12_ok 48 (by decide)
theorem mT_merging : parseFieldDescriptor (TX12 49).2.2.1 = some .boolean := tyX12_ok 49 (by decide)
theorem mT_toCopy : parseFieldDescriptor (TX12 52).2.2.1 = some .int := tyX12_ok 52 (by decide)
theorem mT_copied : parseFieldDescriptor (TX12 53).2.2.1 = some .int := tyX12_ok 53 (by decide)
theorem mT_foundMany : parseFieldDescriptor (TX12 55).2.2.1 = some .int := tyX12_ok 55 (by decide)
theorem mT_packedBits : parseFieldDescriptor (TX12 58).2.2.1 = some .int := tyX12_ok 58 (by decide)
theorem mT_liveMany : parseFieldDescriptor (TX12 60).2.2.1 = some .int := tyX12_ok 60 (by decide)
theorem mT_leaves : parseFieldDescriptor (TX12 71).2.2.1 = some .int := tyX12_ok 71 (by decide)
theorem mT_partsMany : parseFieldDescriptor (TX12 72).2.2.1 = some .int := tyX12_ok 72 (by decide)
theorem mT_queries : parseFieldDescriptor (TX12 73).2.2.1 = some .int := tyX12_ok 73 (by decide)
theorem mT_tokened : parseFieldDescriptor (TX12 77).2.2.1 = some .int := tyX12_ok 77 (by decide)
theorem mT_cached : parseFieldDescriptor (TX12 85).2.2.1 = some .int := tyX12_ok 85 (by decide)
theorem mT_hits : parseFieldDescriptor (TX12 88).2.2.1 = some .int := tyX12_ok 88 (by decide)
theorem mT_skips : parseFieldDescriptor (TX12 89).2.2.1 = some .int := tyX12_ok 89 (by decide)
theorem mT_taken : parseFieldDescriptor (TX12 90).2.2.1 = some .int := tyX12_ok 90 (by decide)
theorem mT_markedMany : parseFieldDescriptor (TX12 92).2.2.1 = some .int := tyX12_ok 92 (by decide)
theorem mT_writes : parseFieldDescriptor (TX12 96).2.2.1 = some .int := tyX12_ok 96 (by decide)
theorem mT_crash : parseFieldDescriptor (TX12 97).2.2.1 = some .int := tyX12_ok 97 (by decide)
theorem mT_down : parseFieldDescriptor (TX12 98).2.2.1 = some .boolean := tyX12_ok 98 (by decide)
theorem mT_last : parseFieldDescriptor (TX12 99).2.2.1 = some .int := tyX12_ok 99 (by decide)
