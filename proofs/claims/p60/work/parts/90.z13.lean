/-! the reference: a question is made ready on a snapshot -/
section RG
variable {v v' : Nat → Int32} {f f' : Nat → Nat → Int32} {g g' : Nat → Nat → Int64} {l : LGt} {made dn : Nat} {sg : Nat → List Dc} {hd : Nat → Nat → Nat} {s : Vw} {q m w0 w1 : Nat} {nd : Nat → Nd}
theorem rNd_55 {n : Nat} {o : Nat} {d : Nd} (hn : n = 55 ∨ n = 54 ∨ n = 56 ∨ n = 38) (h : ∀ k, k ≠ n → f' k = f k) (hN : rNd f g o d) : rNd f' g o d := by
  have e : ∀ k, 40 ≤ k → k < 48 → f' k = f k := fun k h1 h2 => h k (by omega)
  refine rNd_cp hN ?_ ?_ ?_ ?_ ?_ (fun _ _ => rfl) (fun i _ => ?_) (fun i _ => ?_)
  · rw [e 40 (by decide) (by decide)]
  · rw [e 41 (by decide) (by decide)]
  · rw [e 42 (by decide) (by decide)]
  · rw [e 43 (by decide) (by decide)]
  · rw [e 44 (by decide) (by decide)]
  · rw [e 46 (by decide) (by decide)]
  · rw [e 47 (by decide) (by decide)]
theorem qsS_st {nd : Nat → Nd} {m : Nat} (hq : qOk nd m) : ∀ k, k ≤ m → ∀ i, i < (qsS nd k).1 → (qsS nd k).2.1 i < k
  | 0, _, i, hi => absurd hi (Nat.not_lt_zero i)
  | k + 1, hk, i, hi => by
    have ih := qsS_st hq k (by omega)
    obtain ⟨h1, h2⟩ := hq k (by omega)
    cases c : nLf (nd k) with
    | true =>
      rw [qs_s c] at hi
      have e : (qsS nd (k + 1)).2.1 = upR (qsS nd k).2.1 (qsS nd k).1 k := by rw [qsS, if_pos c]
      rw [e]
      by_cases z : i = (qsS nd k).1
      · rw [z, upR_s]; omega
      · rw [upR_n z]; have := ih i (by omega); omega
    | false =>
      rw [qs_n c] at hi
      have e : (qsS nd (k + 1)).2.1 = (qsS nd k).2.1 := by rw [qsS, c, if_neg Bool.false_ne_true]
      rw [e]; have := ih i (by omega); omega
/-- a question made ready on a snapshot -/
def rRy (v : Nat → Int32) (f : Nat → Nat → Int32) (sg : Nat → List Dc) (hd : Nat → Nat → Nat) (s : Vw) (w0 w1 m : Nat) (nd : Nat → Nd) : Prop := rLv v f sg hd s ∧ (∀ j, j < m → nLf (nd j) = true → f 55 j = nI (gnN w0 w1 (nd j) (rrL nd m sg s.2 s.1 (lfI nd j).length))) ∧ ∀ j, j < m → f 56 j = bI ((qsS nd m).2.2 j)
end RG
