/-! the reference: marks of a document laid, whether they are met; choices -/
section PA
variable {v v' : Nat → Int32} {f f' : Nat → Nat → Int32} {g g' : Nat → Nat → Int64} {l : LGt} {made dn : Nat} {sg : Nat → List Dc} {hd : Nat → Nat → Nat} {sl : Nat → Option (Nat × Vw)} {a k q m w0 w1 : Nat} {s : Vw} {nd : Nat → Nd} {rr : Nat → Nat}
theorem mkO_lt {d : Nd} {e : Dc} {f18 : Nat → Int32} {g17 : Nat → Int64} {kk : Nat} (hx : rTx l f18 g17 kk e) (hf : nF d < 2) : mkO e d < 2 ^ 20 := by
  obtain ⟨K, K20, -, hT, -⟩ := hx (nF d) hf
  rw [mkO_cp K20 hT]
  exact Nat.lt_of_lt_of_le cpF_lt (Nat.pow_le_pow_right (by decide) K20)
theorem sp_ok {e : Dc} {fl : Nat} {f18 : Nat → Int32} {g17 : Nat → Int64} {kk : Nat} (hx : rTx l f18 g17 kk e) (hq : qOk nd m) (hl : (lfI nd m).length ≤ 24) : spOk (spF nd m (fun i => mkO e (lfD nd m i)) fl) (lfI nd m).length := by
  refine ⟨hl, fun i hi => ?_, fun i mm h => ?_⟩
  · unfold spF
    rw [if_neg (fun w => by omega)]
  · unfold spF at h
    split at h
    · rename_i w
      rw [← Option.some.inj h]
      exact ⟨w.2.2.2, mkO_lt hx (qOk_lf hq w.1).1⟩
    · exact absurd h (by simp)
end PA
