/-! the reference: looks, files -/
theorem w_B0 {b : Bool} {A B : Prop} (f : b = false → A) (g : b = true → B) : (bI b = 0 → A) ∧ (¬ bI b = 0 → B) := w_b0 b f g
theorem w_Bn {b : Bool} {A B : Prop} (f : b = true → A) (g : b = false → B) : (¬ bI b = 0 → A) ∧ (bI b = 0 → B) := w_bn b f g
/-- the slots of snapshots -/
def rLk (f : Nat → Nat → Int32) (made : Nat) (sg : Nat → List Dc) (sl : Nat → Option (Nat × Vw)) : Prop := ∀ k, k < 5 → (sl k = none → f 29 k = -1) ∧ ∀ s, sl k = some s → (f 29 k = nI s.1 ∧ s.1 < 2 ^ 30) ∧ f 31 k = nI s.2.1.length ∧ s.2.1.length ≤ 200 ∧ (∀ j n, s.2.1[j]? = some n → f 30 (202 * k + j) = nI n ∧ n < made) ∧ ∀ n, n ∈ s.2.1 → ∀ j, j < (sg n).length → f 32 (20200 * k + (100 * n + j)) = bI (s.2.2 n j)
/-- whether a slot's snapshot names a segment -/
def lkM (sl : Nat → Option (Nat × Vw)) (n k : Nat) : Bool := match sl k with
  | some s => decide (n ∈ s.2.1)
  | none => false
theorem nI_neg {n : Nat} (h : n < 2 ^ 31) : ¬ nI n = -1 := fun e => by
  have : (nI n).toInt = (-1 : Int32).toInt := congrArg Int32.toInt e
  rw [nI_toInt h] at this
  revert this
  show ((n : Int) = -1) → False
  omega
section LK
variable {v v' : Nat → Int32} {f f' : Nat → Nat → Int32} {g g' : Nat → Nat → Int64} {l : LGt} {made dn : Nat} {sg : Nat → List Dc} {hd : Nat → Nat → Nat} {sl : Nat → Option (Nat × Vw)} {ids : List Nat} {lv : Nat → Nat → Bool} {cm pr : Option Vw} {mg : Option (Vw × Nat)} {off : Bool}
/-- whether a view that may be missing tells of a dead document of a segment -/
def dvB (sg : Nat → List Dc) (o : Option Vw) (n : Nat) : Bool := match o with
  | some s => decide (n ∈ s.1) && anyB (fun j => !s.2 n j) (sg n).length
  | none => false
/-- whether both tell the same -/
def svB (f : Nat → Nat → Int32) (sg : Nat → List Dc) (n : Nat) : Bool := allB (fun j => decide (f 26 (100 * n + j) = f 28 (100 * n + j))) (sg n).length
/-- the files of a segment -/
def rfN (f : Nat → Nat → Int32) (sg : Nat → List Dc) (ids : List Nat) (cm pr : Option Vw) (sl : Nat → Option (Nat × Vw)) (n : Nat) : Nat := (if (decide (n ∈ ovL cm) || decide (n ∈ ovL pr) || decide (n ∈ ids) || anyB (lkM sl n) 5) = true then 1 else 0) + ((if dvB sg cm n = true then 1 else 0) + (if (dvB sg pr n && !(dvB sg cm n && svB f sg n)) = true then 1 else 0))
/-- all files -/
def rfA (f : Nat → Nat → Int32) (sg : Nat → List Dc) (made : Nat) (ids : List Nat) (mg : Option (Vw × Nat)) (cm pr : Option Vw) (sl : Nat → Option (Nat × Vw)) : Nat := (if cm.isSome = true then 1 else 0) + (if pr.isSome = true then 1 else 0) + (if mgC mg = 0 then 0 else 1) + smN (rfN f sg ids cm pr sl) made
theorem bI_nI (b : Bool) : bI b = nI (if b = true then 1 else 0) := by cases b <;> rfl
theorem anyB_s (q : Nat → Bool) (n : Nat) : anyB q (n + 1) = (anyB q n || q n) := rfl
theorem smN_s (f : Nat → Nat) (n : Nat) : smN f (n + 1) = smN f n + f n := rfl
theorem allB_s (q : Nat → Bool) (n : Nat) : allB q (n + 1) = (allB q n && q n) := by
  rw [Bool.eq_iff_iff, Bool.and_eq_true, allB_iff, allB_iff]
  constructor
  · intro h
    exact ⟨fun i hi => h i (by omega), h n (Nat.lt_succ_self n)⟩
  · rintro ⟨h1, h2⟩ i hi
    by_cases c : i = n
    · subst c; exact h2
    · exact h1 i (by omega)
theorem any_c {c : Bool} {q : Nat → Bool} : ∀ n : Nat, anyB (fun j => c && q j) n = (c && anyB q n)
  | 0 => by cases c <;> rfl
  | n + 1 => by
    rw [anyB_s, anyB_s, any_c n]
    cases c <;> rfl
theorem rOv_row {fl ct row lr : Nat} {o : Option Vw} (ho : rOv v f fl ct row lr made sg o) (n : Nat) (hn : decide (n ∈ ovL o) = true) : ∃ s, o = some s ∧ ∀ j, j < (sg n).length → f lr (100 * n + j) = bI (s.2 n j) := by
  have hm := of_decide_eq_true hn
  cases o with
  | none => exact absurd hm List.not_mem_nil
  | some s => exact ⟨s, rfl, (ho.2 s rfl).2.2.2 n hm⟩
def oLv (o : Option Vw) (n j : Nat) : Bool := match o with
  | some s => s.2 n j
  | none => true
theorem dvB_any {o : Option Vw} {n : Nat} : dvB sg o n = anyB (fun j => decide (n ∈ ovL o) && !oLv o n j) (sg n).length := by
  rw [any_c]
  cases o with
  | none => show false = (decide (n ∈ ([] : List Nat)) && _); simp
  | some s => rfl
end LK
