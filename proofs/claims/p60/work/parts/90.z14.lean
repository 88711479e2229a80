/-! the reference: the bound of a block -/
theorem pcN_cnt (m : Nat) : ∀ n : Nat, pcN m n = cntB (fun p => m.testBit p) n
  | 0 => rfl
  | n + 1 => by rw [pcN, cntB, pcN_cnt m n]
theorem cntB_ext {f h : Nat → Bool} : ∀ {n : Nat}, (∀ i, i < n → f i = h i) → cntB f n = cntB h n
  | 0, _ => rfl
  | n + 1, e => by rw [cntB, cntB, cntB_ext (fun i hi => e i (by omega)), e n (by omega)]
theorem cntB_out {f : Nat → Bool} {K : Nat} (h : ∀ i, K ≤ i → f i = false) : ∀ d : Nat, cntB f (K + d) = cntB f K
  | 0 => rfl
  | d + 1 => by rw [← Nat.add_assoc, cntB, cntB_out h d, h _ (by omega)]; rfl
section BD
variable {v v' : Nat → Int32} {f f' : Nat → Nat → Int32} {g g' : Nat → Nat → Int64} {l : LGt} {made dn : Nat} {sg : Nat → List Dc} {hd : Nat → Nat → Nat} {q m w0 w1 : Nat} {nd : Nat → Nd} {rr : Nat → Nat}
theorem rSg_S3 (h : rS3 f f') (hs : rSg l v f g made dn sg hd) : rSg l v f' g made dn sg hd := by
  unfold rSg
  rw [h 20 (by decide) (by decide) (by decide), h 19 (by decide) (by decide) (by decide), h 14 (by decide) (by decide) (by decide), h 15 (by decide) (by decide) (by decide), h 16 (by decide) (by decide) (by decide), h 18 (by decide) (by decide) (by decide)]; exact hs
/-- whether a place has a leaf's first token -/
noncomputable def fsB (l : LGt) (d : Nd) (st : Nat → Int64) (p : Nat) : Bool := if nK d ≤ 2 then hsB l (st p) (tkC d 0) else ftB l d (st p)
theorem fsA_cnt {L : List Dc} {d : Nd} {j : Nat} {e : Dc} {st : Nat → Int64} {K : Nat} (hK : K ≤ 20) (hj : L[j]? = some e) (h : dT e (nF d) = tkG l st K) : pcN (fsA L d j) 20 = cntB (fsB l d st) K := by
  have key : ∀ p, (fsA L d j).testBit p = (decide (p < K) && fsB l d st p) := by
    intro p
    unfold fsA fsB
    by_cases c : nK d ≤ 2
    · rw [if_pos c, if_pos c]
      unfold mkC mF
      rw [tlD_at hj, h, bit_hs]
    · rw [if_neg c, if_neg c]
      have e1 := mkO_cp (d := d) hK h
      have e2 : mkO e d = tdK (tdI d) (dT e (nF d)) := by unfold mkO; rw [if_neg c]
      rw [tlD_at hj, ← e2, e1, cpF_tb]
      unfold mkB
      rw [if_neg c]
  rw [pcN_cnt]
  have e20 : cntB (fun p => (fsA L d j).testBit p) 20 = cntB (fun p => (fsA L d j).testBit p) K := by
    have := cntB_out (f := fun p => (fsA L d j).testBit p) (K := K) (fun i hi => by
      show (fsA L d j).testBit i = false
      rw [key, decide_eq_false (show ¬ i < K by omega)]; rfl) (20 - K)
    rwa [show K + (20 - K) = 20 by omega] at this
  rw [e20]
  exact cntB_ext (fun i hi => by rw [key, decide_eq_true hi]; rfl)
end BD
