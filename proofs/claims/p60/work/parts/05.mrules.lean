/-! rules on naturals and truths; loops -/
def bI (b : Bool) : Int32 := if b then 1 else 0
theorem bI_t : bI true = 1 := rfl
theorem bI_f : bI false = 0 := rfl
theorem bI_0 {b : Bool} : bI b = 0 ↔ b = false := by cases b <;> decide
theorem bI_n {b : Bool} : ¬ bI b = 0 ↔ b = true := by cases b <;> decide
theorem bI_nar (b : Bool) : narrow .boolean (.int (bI b)) = .int (bI b) := by cases b <;> rfl
theorem bI_fit (b : Bool) : fits .boolean (.int (bI b)) = true := by cases b <;> rfl
theorem bI_vp (b : Bool) : vp_nar .boolean (bI b) = bI b := by cases b <;> rfl
theorem bI_and1 (b : Bool) : (bI b) = if b = true then 1 else 0 := by cases b <;> rfl
theorem bI_1 {b : Bool} : bI b = 1 ↔ b = true := by cases b <;> decide
theorem nI_z {x : Nat} (hx : x < 2 ^ 31) : nI x = 0 ↔ x = 0 := by
  rw [← nI_0]; exact nI_eq hx (by omega)
theorem nI_gt0 {x : Nat} (hx : x < 2 ^ 31) : 0 < nI x ↔ 0 < x := by
  rw [← nI_0]; exact nI_ltI (by omega) hx
theorem nI_le0 {x : Nat} (hx : x < 2 ^ 31) : nI x ≤ 0 ↔ x = 0 := by
  rw [← nI_0, nI_leI hx (by omega)]; omega
theorem nI_b1 : nI 1 = bI true := rfl
theorem nI_b0 : nI 0 = bI false := rfl
def anyB (q : Nat → Bool) : Nat → Bool
  | 0 => false
  | n + 1 => anyB q n || q n
theorem anyB_iff {q : Nat → Bool} : ∀ {n : Nat}, anyB q n = true ↔ ∃ j, j < n ∧ q j = true
  | 0 => by simp [anyB]
  | n + 1 => by
    rw [anyB, Bool.or_eq_true, anyB_iff]
    constructor
    · rintro (⟨j, h1, h2⟩ | h)
      · exact ⟨j, by omega, h2⟩
      · exact ⟨n, by omega, h⟩
    · rintro ⟨j, h1, h2⟩
      rcases Nat.lt_or_ge j n with h | h
      · exact Or.inl ⟨j, h, h2⟩
      · have : j = n := by omega
        subst this
        exact Or.inr h2
/-- a row put at a place; a row with one place changed -/
def sR {α : Type} (f : Nat → Nat → α) (J : Nat) (r : Nat → α) : Nat → Nat → α := fun b => if b = J then r else f b
def upR {α : Type} (r : Nat → α) (i : Nat) (x : α) : Nat → α := fun k => if k = i then x else r k
theorem upR_s {α : Type} {r : Nat → α} {i : Nat} {x : α} : upR r i x i = x := if_pos rfl
theorem upR_e {α : Type} {r : Nat → α} {i k : Nat} {x : α} (h : k = i) : upR r i x k = x := if_pos h
theorem upR_n {α : Type} {r : Nat → α} {i k : Nat} {x : α} (h : k ≠ i) : upR r i x k = r k := if_neg h
theorem sR_s {α : Type} {f : Nat → Nat → α} {J : Nat} {r : Nat → α} : sR f J r J = r := if_pos rfl
theorem sR_n {α : Type} {f : Nat → Nat → α} {J b : Nat} {r : Nat → α} (h : b ≠ J) : sR f J r b = f b := if_neg h
theorem sR_id {α : Type} (f : Nat → Nat → α) (J : Nat) : sR f J (f J) = f := by
  funext b; unfold sR; split
  · rename_i h; rw [h]
  · rfl
theorem mU_new {α : Type} {f : Nat → Nat → α} {J i : Nat} {x : α} : mU f J i x = sR f J (upR (f J) i x) := rfl
theorem mU_sR {α : Type} {f : Nat → Nat → α} {J i : Nat} {r : Nat → α} {x : α} : mU (sR f J r) J i x = sR f J (upR r i x) := by
  funext b; unfold mU sR upR
  by_cases h : b = J <;> simp [h]
theorem mU_c {α : Type} {f : Nat → Nat → α} {J K i : Nat} {r : Nat → α} {x : α} (h : J ≠ K) : mU (sR f K r) J i x = sR (mU f J i x) K r := by
  funext b; unfold mU sR
  by_cases h1 : b = J
  · subst h1; simp [h]
  · by_cases h2 : b = K <;> simp [h1, h2] <;> (intro e; exact absurd e.symm h)
theorem sR_sR {α : Type} {f : Nat → Nat → α} {J : Nat} {r q : Nat → α} : sR (sR f J r) J q = sR f J q := by
  funext b; unfold sR
  by_cases h : b = J <;> simp [h]
theorem sR_c {α : Type} {f : Nat → Nat → α} {J K : Nat} {r q : Nat → α} (h : J ≠ K) : sR (sR f K r) J q = sR (sR f J q) K r := by
  funext b; unfold sR
  by_cases h1 : b = J
  · subst h1; simp [h]
  · by_cases h2 : b = K <;> simp [h1, h2] <;> (intro e; exact absurd e.symm h)
theorem upd_s {v : Nat → Int32} {k : Nat} {x y : Int32} : upd (upd v k x) k y = upd v k y := by
  funext b; unfold upd
  by_cases h : b = k <;> simp [h]
theorem upd_c {v : Nat → Int32} {k j : Nat} {x y : Int32} (h : k ≠ j) : upd (upd v j x) k y = upd (upd v k y) j x := by
  funext b; unfold upd
  by_cases h1 : b = k
  · subst h1; simp [h]
  · by_cases h2 : b = j <;> simp [h1, h2] <;> (intro e; exact absurd e.symm h)
theorem upd_id (v : Nat → Int32) (k : Nat) : upd v k (v k) = v := by
  funext b; unfold upd; split
  · rename_i h; rw [h]
  · rfl
theorem upd_e {v : Nat → Int32} {k : Nat} {x : Int32} : upd v k x k = x := if_pos rfl
theorem upd_n {v : Nat → Int32} {k j : Nat} {x : Int32} (h : j ≠ k) : upd v k x j = v j := if_neg h
section MG2
variable {p : Program} {l : Launch} {e : Env} {R : Room} {s : State} {m : MethodId} {args : Array Value} {below : List Frame} {meth : Method} {c : Code} {cc : ByteArray} {nL : Nat} {ret : Option FieldType} {A : Nat → Prop} {D : va_G} {cI cJ cZ : ClassId} {a : Nat → Nat} {Q : State → Prop}
variable {pc : Nat} {lv lv' : List (Nat × Value)} {st : List Value} {v : Nat → Int32} {f : Nat → Nat → Int32} {g : Nat → Nat → Int64}
theorem mg_cast {x : Int32} (y : Int32) (h : x = y) (k : mG p l e R s m args below meth c A D cI cJ cZ a nL Q pc lv (.int y :: st) v f g) : mG p l e R s m args below meth c A D cI cJ cZ a nL Q pc lv (.int x :: st) v f g := by rw [h]; exact k
theorem mg_castL {x : Int64} (y : Int64) (h : x = y) (k : mG p l e R s m args below meth c A D cI cJ cZ a nL Q pc lv (.long y :: st) v f g) : mG p l e R s m args below meth c A D cI cJ cZ a nL Q pc lv (.long x :: st) v f g := by rw [h]; exact k
theorem mg_world {v' : Nat → Int32} {f' : Nat → Nat → Int32} {g' : Nat → Nat → Int64} (hv : v = v') (hf : f = f') (hg : g = g') (k : mG p l e R s m args below meth c A D cI cJ cZ a nL Q pc lv st v' f' g') : mG p l e R s m args below meth c A D cI cJ cZ a nL Q pc lv st v f g := by rw [hv, hf, hg]; exact k
theorem mg_loop {X : Type} (I : X → Prop) (μ : X → Nat) (LV : X → List (Nat × Value)) (V : X → mS) (x0 : X) (ks : List Nat) (hlv : lv_pick lv ks = LV x0) (hV : V x0 = (v, f, g)) (h0 : I x0) (h : ∀ x, I x → (∀ y, I y → μ y < μ x → mG p l e R s m args below meth c A D cI cJ cZ a nL Q pc (LV y) [] (V y).1 (V y).2.1 (V y).2.2) → mG p l e R s m args below meth c A D cI cJ cZ a nL Q pc (LV x) [] (V x).1 (V x).2.1 (V x).2.2) : mG p l e R s m args below meth c A D cI cJ cZ a nL Q pc lv [] v f g := by
  have key : ∀ (n : Nat) (x : X), I x → μ x < n → mG p l e R s m args below meth c A D cI cJ cZ a nL Q pc (LV x) [] (V x).1 (V x).2.1 (V x).2.2 := by
    intro n
    induction n with
    | zero => intro x _ h2; exact absurd h2 (Nat.not_lt_zero _)
    | succ n ih => intro x h1 h2; exact h x h1 (fun y q1 q2 => ih y q1 (by omega))
  have k := key _ x0 h0 (Nat.lt_succ_self _)
  rw [hV] at k
  exact mg_sub ks hlv k
theorem mg_have {X : Type} (pc' : Nat) (I : X → Prop) (LV : X → List (Nat × Value)) (ST : X → List Value) (V : X → mS) (h : ∀ x, I x → mG p l e R s m args below meth c A D cI cJ cZ a nL Q pc' (LV x) (ST x) (V x).1 (V x).2.1 (V x).2.2) (k : (∀ x, I x → mG p l e R s m args below meth c A D cI cJ cZ a nL Q pc' (LV x) (ST x) (V x).1 (V x).2.1 (V x).2.2) → mG p l e R s m args below meth c A D cI cJ cZ a nL Q pc lv st v f g) : mG p l e R s m args below meth c A D cI cJ cZ a nL Q pc lv st v f g := k h
end MG2
