/-! the reference: a method as a predicate of what it returns with -/
def lfp {X : Type} (F : (X → Prop) → X → Prop) (x : X) : Prop := ∀ P : X → Prop, (∀ y, F P y → P y) → P x
/-- a loop by an invariant and a measure -/
theorem lfp_ind {X : Type} {F : (X → Prop) → X → Prop} (I : X → Prop) (μ : X → Nat) (step : ∀ (P : X → Prop) (x : X), I x → (∀ y, I y → μ y < μ x → P y) → F P x) {x : X} (h : I x) : lfp F x := by
  intro P hP
  have key : ∀ n, ∀ y, μ y < n → I y → P y := by
    intro n
    induction n with
    | zero => intro y hy; exact absurd hy (Nat.not_lt_zero _)
    | succ n ih => intro y hy hI; exact hP y (step P y hI (fun z hz hlt => ih z (by omega) hz))
  exact key (μ x + 1) x (Nat.lt_succ_self _) h
def isZ (x : Int32) : Prop := ∃ b : Bool, x = bI b
def isC (x : Int32) : Prop := narrow .char (.int x) = .int x
theorem isZ_nar {x : Int32} (h : isZ x) : narrow .boolean (.int x) = .int x := by obtain ⟨b, rfl⟩ := h; exact bI_nar b
theorem isZ_fit {x : Int32} (h : isZ x) : fits .boolean (.int x) = true := by obtain ⟨b, rfl⟩ := h; exact bI_fit b
theorem isZ_vp {x : Int32} (h : isZ x) : vp_nar .boolean x = x := by obtain ⟨b, rfl⟩ := h; exact bI_vp b
section MW1
variable {p : Program} {l : Launch} {e : Env} {R : Room} {s : State} {m : MethodId} {args : Array Value} {below : List Frame} {meth : Method} {c : Code} {cc : ByteArray} {nL : Nat} {ret : Option FieldType} {A : Nat → Prop} {D : va_G} {cI cJ cZ : ClassId} {a : Nat → Nat} {Q : State → Prop}
variable {pc : Nat} {lv lv' : List (Nat × Value)} {st : List Value} {v : Nat → Int32} {f : Nat → Nat → Int32} {g : Nat → Nat → Int64}
theorem mg_nmI {x : Int32} (k : ∀ y, y = x → mG p l e R s m args below meth c A D cI cJ cZ a nL Q pc lv (.int y :: st) v f g) : mG p l e R s m args below meth c A D cI cJ cZ a nL Q pc lv (.int x :: st) v f g := k x rfl
theorem mg_nmL {x : Int64} (k : ∀ y, y = x → mG p l e R s m args below meth c A D cI cJ cZ a nL Q pc lv (.long y :: st) v f g) : mG p l e R s m args below meth c A D cI cJ cZ a nL Q pc lv (.long x :: st) v f g := k x rfl
theorem mg_nmV (k : ∀ y, y = v → mG p l e R s m args below meth c A D cI cJ cZ a nL Q pc lv st y f g) : mG p l e R s m args below meth c A D cI cJ cZ a nL Q pc lv st v f g := k v rfl
theorem mg_nmF (k : ∀ y, y = f → mG p l e R s m args below meth c A D cI cJ cZ a nL Q pc lv st v y g) : mG p l e R s m args below meth c A D cI cJ cZ a nL Q pc lv st v f g := k f rfl
theorem mg_nmG (k : ∀ y, y = g → mG p l e R s m args below meth c A D cI cJ cZ a nL Q pc lv st v f y) : mG p l e R s m args below meth c A D cI cJ cZ a nL Q pc lv st v f g := k g rfl
end MW1
