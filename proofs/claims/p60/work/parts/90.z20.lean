/-! the reference: matches, facets -/
section MA
variable {v v' : Nat → Int32} {f f' : Nat → Nat → Int32} {g g' : Nat → Nat → Int64} {l : LGt} {made dn : Nat} {sg : Nat → List Dc} {hd : Nat → Nat → Nat} {sl : Nat → Option (Nat × Vw)} {a k q m w0 w1 : Nat} {s : Vw} {nd : Nat → Nd} {rr : Nat → Nat} {qs : List (Nat × (Nat → Nd))}
/-- a category, or none -/
def caO : Option Nat → Int32
  | none => -1
  | some c => nI c
def caB (sg : Nat → List Dc) (co : Option Nat) (y : Nat × Nat) : Bool := match co with
  | none => true
  | some c => catB sg c y
/-- how many match, of a category -/
noncomputable def maN (sg : Nat → List Dc) (s : Vw) (e : Nat × (Nat → Nd)) (co : Option Nat) : Nat := sumL (fun y => if (caB sg co y && mtB e (sg y.1) y.2) = true then 1 else 0) (mtL sg s.2 s.1)
theorem maN_all {e : Nat × (Nat → Nd)} : maN sg s e none = (mtQ sg s e).length := by
  unfold maN mtQ
  rw [mtL_cnt, mtL_sum]
  rfl
theorem sumL_map {α β : Type} {F : β → Nat} {G : α → β} : ∀ L : List α, sumL F (L.map G) = sumL (fun a => F (G a)) L
  | [] => rfl
  | a :: L => by
    show F (G a) + sumL F (L.map G) = F (G a) + _
    rw [sumL_map L]
theorem sumL_ext {α : Type} {F G : α → Nat} : ∀ {L : List α}, (∀ a, a ∈ L → F a = G a) → sumL F L = sumL G L
  | [], _ => rfl
  | a :: L, h => by
    show F a + sumL F L = G a + sumL G L
    rw [h a List.mem_cons_self, sumL_ext (fun b hb => h b (List.mem_cons_of_mem _ hb))]
theorem maN_cat {e : Nat × (Nat → Nd)} {c : Nat} : maN sg s e (some c) = sumL (fun d => if dC d = c then 1 else 0) ((mtQ sg s e).map (fun y => (sg y.1).getD y.2 ((0, 0, 0), [], []))) := by
  rw [sumL_map]
  have e1 : sumL (fun y => if dC ((sg y.1).getD y.2 ((0, 0, 0), [], [])) = c then 1 else 0) (mtQ sg s e) = sumL (fun y => if catB sg c y = true then 1 else 0) (mtQ sg s e) := by
    refine sumL_ext (fun y hy => ?_)
    unfold mtQ at hy
    obtain ⟨-, a2, -⟩ := mtL_mem hy
    obtain ⟨d, hd'⟩ := get_ex (l := sg y.1) (k := y.2) a2
    unfold catB
    rw [List.getD_eq_getElem?_getD, hd']
    show (if dC d = c then 1 else 0) = if (dC d == c) = true then 1 else 0
    by_cases z : dC d = c
    · rw [if_pos z, if_pos (by simpa using z)]
    · rw [if_neg z, if_neg (by simpa using z)]
  rw [e1]
  unfold maN mtQ
  rw [mtL_sum, mtL_sum]
  refine sumL_ext (fun n _ => cntB_ext (fun j _ => ?_))
  show (s.2 n j && (catB sg c (n, j) && mtB e (sg n) j)) = (s.2 n j && mtB e (sg n) j && catB sg c (n, j))
  cases s.2 n j <;> cases catB sg c (n, j) <;> cases mtB e (sg n) j <;> rfl
end MA
