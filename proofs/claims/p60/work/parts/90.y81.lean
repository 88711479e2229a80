/-! the reference: add, delete, writes -/
theorem inB_of {x : Int32} {m : Nat} (hm : m < 2 ^ 31) (h : inB x (nI 0) (nI m) = true) : ∃ k, k ≤ m ∧ x = nI k := by
  unfold inB at h
  obtain ⟨h1, h2⟩ := Bool.and_eq_true_iff.mp h
  have c : ¬ x < nI 0 := fun w => absurd (Int32.lt_of_lt_of_le w (of_decide_eq_true h1)) Int32.lt_irrefl
  obtain ⟨k, -, k31, rfl⟩ := i32_ge (by decide) c
  exact ⟨k, (nI_leI k31 hm).mp (of_decide_eq_true h2), rfl⟩
/-- the draft, as a document -/
def rDr (l : LGt) (v : Nat → Int32) (f : Nat → Nat → Int32) (g : Nat → Nat → Int64) (d : Dc) : Prop := (v 13 = nI (dC d) ∧ dC d < 10) ∧ (v 14 = nI (dN d) ∧ dN d < 1000) ∧ rTx l (f 8) (g 7) 0 d
/-- a document with another key -/
def dcK (key : Nat) (d : Dc) : Dc := ((key, dC d, dN d), d.2)
theorem rTx_cp {l : LGt} {fp fp' : Nat → Int32} {gs gs' : Nat → Int64} {k k' : Nat} {d : Dc} {key : Nat} (e4 : ∀ fl, fl < 2 → fp' (2 * k' + fl) = fp (2 * k + fl)) (e5 : ∀ q, q < 40 → gs' (40 * k' + q) = gs (40 * k + q)) (h : rTx l fp gs k d) : rTx l fp' gs' k' (dcK key d) := by
  intro fl hfl
  obtain ⟨n, n1, n2, n3, n4⟩ := h fl hfl
  have es : ∀ q, q < n → gs' (40 * k' + (20 * fl + q)) = gs (40 * k + (20 * fl + q)) := fun q hq => e5 _ (by omega)
  refine ⟨n, n1, (e4 fl hfl).trans n2, ?_, fun q hq => ?_⟩
  · rw [show dT (dcK key d) fl = dT d fl from rfl, n3]
    have : ∀ m, m ≤ n → tkG l (fun q => gs (40 * k + (20 * fl + q))) m = tkG l (fun q => gs' (40 * k' + (20 * fl + q))) m := by
      intro m
      induction m with
      | zero => intro _; rfl
      | succ m ih =>
        intro hm
        have := ih (by omega)
        unfold tkG at this ⊢
        rw [tkL, tkL, this, es m (by omega)]
    exact this n (Nat.le_refl n)
  · rw [es q hq]; exact n4 q hq
