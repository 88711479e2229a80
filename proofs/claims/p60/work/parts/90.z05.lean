/-! the reference: TERM, PHRASE, NEAR, PREFIX, FUZZY -/
/-- the queries' rows are as they were -/
def lfF (f f' : Nat → Nat → Int32) (g g' : Nat → Nat → Int64) : Prop := zK f f' 43 ∧ (∀ i, i ≠ 40 → f' 48 i = f 48 i) ∧ (∀ c, c < 1920 → f' 40 c = f 40 c ∧ f' 41 c = f 41 c ∧ f' 42 c = f 42 c ∧ f' 43 c = f 43 c ∧ f' 44 c = f 44 c) ∧ (∀ c, c < 11520 → f' 46 c = f 46 c ∧ g' 45 c = g 45 c) ∧ ∀ c, c < 23040 → f' 47 c = f 47 c
section TM
variable {v v' : Nat → Int32} {f f' : Nat → Nat → Int32} {g g' : Nat → Nat → Int64} {l : LGt} {n m : Nat} {P : Nat → Nat} {nd : Nat → Nd}
theorem rPr_fr (h1 : v' 71 = v 71) (h2 : v' 72 = v 72) (h3 : ∀ r, r ∈ [40, 41, 42, 43, 44, 46, 47, 48] → f' r = f r) (h4 : g' 45 = g 45) (h : rPr v f g m nd) : rPr v' f' g' m nd := by
  obtain ⟨a1, a2, a3, a4⟩ := h
  refine ⟨by rw [h3 48 (by decide)]; exact a1, h1.trans a2, h2.trans a3, fun k hk => rNd_cp (a4 k hk) ?_ ?_ ?_ ?_ ?_ (fun i _ => by rw [h4]) (fun i _ => ?_) (fun i _ => ?_)⟩
  · rw [h3 40 (by decide)]
  · rw [h3 41 (by decide)]
  · rw [h3 42 (by decide)]
  · rw [h3 43 (by decide)]
  · rw [h3 44 (by decide)]
  · rw [h3 46 (by decide)]
  · rw [h3 47 (by decide)]
theorem lfF_of (h1 : zK f f' 43) (h2 : ∀ i, i ≠ 40 → f' 48 i = f 48 i) (h3 : ∀ c, c < 1920 + m → f' 40 c = f 40 c ∧ f' 41 c = f 41 c ∧ f' 42 c = f 42 c ∧ f' 43 c = f 43 c ∧ f' 44 c = f 44 c) (h4 : ∀ c, c < 6 * (1920 + m) → f' 46 c = f 46 c ∧ g' 45 c = g 45 c) (h5 : ∀ c, c < 23040 → f' 47 c = f 47 c) : lfF f f' g g' := ⟨h1, h2, fun c hc => h3 c (by omega), fun c hc => h4 c (by omega), h5⟩
theorem lfF_tr {f'' : Nat → Nat → Int32} {g'' : Nat → Nat → Int64} (e : ∀ r, r ∈ [40, 41, 42, 43, 44, 46, 47, 48] → f' r = f r) (e2 : g' 45 = g 45) (h : lfF f' f'' g' g'') : lfF f f'' g g'' := by
  obtain ⟨h1, h2, h3, h4, h5⟩ := h
  have e40 := e 40 (by decide)
  have e41 := e 41 (by decide)
  have e42 := e 42 (by decide)
  have e43 := e 43 (by decide)
  have e44 := e 44 (by decide)
  have e46 := e 46 (by decide)
  have e47 := e 47 (by decide)
  have e48 := e 48 (by decide)
  rw [e48] at h2
  rw [e40, e41, e42, e43, e44] at h3
  rw [e46, e2] at h4
  rw [e47] at h5
  exact ⟨zK_tr (zK_eq e43) h1, h2, h3, h4, h5⟩
theorem tkP_le : (tkP l P n).length ≤ wdC P n := by
  have := tkL_len (F := l.1) (S := l.2.1) (yn := 0) (stp := l.2.2.2) (st := fun k => lN (stW (wdW P n k))) (wdC P n)
  rw [Nat.zero_add, Nat.one_mul] at this
  exact this
end TM
