/-! the reference: what a document gives -/
def rS3 (f f' : Nat → Nat → Int32) : Prop := ∀ n, n ≠ 52 → n ≠ 53 → n ≠ 54 → f' n = f n
theorem rS3_2 {f f' : Nat → Nat → Int32} (h : rS2 f f') : rS3 f f' := fun n a b _ => h n a b
theorem rS3_tr {f f' f'' : Nat → Nat → Int32} (h : rS3 f f') (g : rS3 f' f'') : rS3 f f'' := fun n a b c => (g n a b c).trans (h n a b c)
theorem rNd_S3 {f f' : Nat → Nat → Int32} {g : Nat → Nat → Int64} {o : Nat} {d : Nd} (h : rS3 f f') (hN : rNd f g o d) : rNd f' g o d := by
  refine rNd_cp hN ?_ ?_ ?_ ?_ ?_ (fun _ _ => rfl) (fun i _ => ?_) (fun i _ => ?_)
  · rw [h 40 (by decide) (by decide) (by decide)]
  · rw [h 41 (by decide) (by decide) (by decide)]
  · rw [h 42 (by decide) (by decide) (by decide)]
  · rw [h 43 (by decide) (by decide) (by decide)]
  · rw [h 44 (by decide) (by decide) (by decide)]
  · rw [h 46 (by decide) (by decide) (by decide)]
  · rw [h 47 (by decide) (by decide) (by decide)]
theorem lfI_at {nd : Nat → Nd} {j : Nat} (h : nLf (nd j) = true) : ∀ {m : Nat}, j < m → (lfI nd m)[(lfI nd j).length]? = some j
  | 0, hj => absurd hj (Nat.not_lt_zero j)
  | m + 1, hj => by
    rw [lfI]
    by_cases c : j = m
    · subst c
      rw [if_pos h, List.getElem?_append_right (Nat.le_refl _), Nat.sub_self]; rfl
    · have ih := lfI_at h (m := m) (by omega)
      rw [List.getElem?_append_left (get_lt ih)]
      exact ih
theorem lfD_at {nd : Nat → Nd} {j m : Nat} (h : nLf (nd j) = true) (hj : j < m) : lfD nd m (lfI nd j).length = nd j := by
  unfold lfD lfN
  rw [List.getD_eq_getElem?_getD, lfI_at h hj]; rfl
/-- the gain of a leaf -/
def gnN (w0 w1 : Nat) (d : Nd) (r : Nat) : Nat := if nK d ≤ 2 then wtN w0 w1 (nF d) * r else wtN w0 w1 (nF d) * 32
theorem cIn_sm (s : Nat) : cIn (some s) = nI s := rfl
theorem w_ci {o : Option Nat} {A B : Prop} (hb : o.getD 0 < 2 ^ 31) (f : ∀ s, o = some s → A) (g : o = none → B) : (¬ cIn o = -1 → A) ∧ (cIn o = -1 → B) := by
  rw [cIn_ne hb]
  refine ⟨fun c => ?_, g⟩
  cases o with
  | none => exact absurd rfl c
  | some s => exact f s rfl
