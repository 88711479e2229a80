/-! the reference: a segment is searched by blocks -/
/-- what a search reads -/
def rFc (v : Nat → Int32) (f : Nat → Nat → Int32) (g : Nat → Nat → Int64) (l : LGt) (made dn : Nat) (sg : Nat → List Dc) (hd : Nat → Nat → Nat) (sl : Nat → Option (Nat × Vw)) (q m : Nat) (nd : Nat → Nd) (w0 w1 : Nat) (rr : Nat → Nat) : Prop := rLg v g l ∧ rSg l v f g made dn sg hd ∧ rLk f made sg sl ∧ f 48 q = nI m ∧ (∀ j, j < m → rNd f g (48 * q + j) (nd j)) ∧ (∀ j, j < m → nLf (nd j) = true → f 55 j = nI (gnN w0 w1 (nd j) (rr (lfI nd j).length))) ∧ ∀ j, j < m → f 56 j = bI ((qsS nd m).2.2 j)
/-- what a search asks -/
def pFc (g : Nat → Nat → Int64) (l : LGt) (sl : Nat → Option (Nat × Vw)) (a k : Nat) (s : Vw) (q m : Nat) (nd : Nat → Nd) (w0 w1 : Nat) (rr : Nat → Nat) : Prop := scW l ∧ mPow g ∧ a < 5 ∧ sl a = some (k, s) ∧ q < 40 ∧ m ≤ 48 ∧ qOk nd m ∧ (∀ j, j < m → ndG (nd j)) ∧ (qsS nd m).1 = 1 ∧ (lfI nd m).length ≤ 24 ∧ (w0 ≤ 9 ∧ w1 ≤ 9) ∧ ∀ i, rr i ≤ 102
/-- these rows alone were written -/
def fdF (f f' : Nat → Nat → Int32) : Prop := ∀ n, n ∉ [52, 53, 54, 57, 58, 59, 60] → f' n = f n
theorem fdF_rf {f : Nat → Nat → Int32} : fdF f f := fun _ _ => rfl
theorem fdF_tr {f f' f'' : Nat → Nat → Int32} (h : fdF f f') (h2 : fdF f' f'') : fdF f f'' := fun n hn => (h2 n hn).trans (h n hn)
theorem fdF_S3 {f f' : Nat → Nat → Int32} (h : rS3 f f') : fdF f f' := fun n hn => h n (fun e => hn (by rw [e]; decide)) (fun e => hn (by rw [e]; decide)) (fun e => hn (by rw [e]; decide))
section FI
variable {v v' : Nat → Int32} {f f' : Nat → Nat → Int32} {g g' : Nat → Nat → Int64} {l : LGt} {made dn : Nat} {sg : Nat → List Dc} {hd : Nat → Nat → Nat} {sl : Nat → Option (Nat × Vw)} {a k q m w0 w1 : Nat} {s : Vw} {nd : Nat → Nd} {rr : Nat → Nat}
theorem rFc_fr (hv : ∀ i, i ∉ [85, 88, 89, 90] → v' i = v i) (hf : fdF f f') (h : rFc v f g l made dn sg hd sl q m nd w0 w1 rr) : rFc v' f' g l made dn sg hd sl q m nd w0 w1 rr := by
  obtain ⟨h1, h2, h3, h4, h5, h6, h7⟩ := h
  refine ⟨rLg_fr (hv 9 (by decide)) (hv 6 (by decide)) rfl rfl rfl h1, ?_, rLk_fr (hf 29 (by decide)) (hf 30 (by decide)) (hf 31 (by decide)) (hf 32 (by decide)) h3, by rw [hf 48 (by decide)]; exact h4, fun j hj => ?_, by rw [hf 55 (by decide)]; exact h6, by rw [hf 56 (by decide)]; exact h7⟩
  · unfold rSg
    rw [hv 29 (by decide), hv 26 (by decide), hf 20 (by decide), hf 19 (by decide), hf 14 (by decide), hf 15 (by decide), hf 16 (by decide), hf 18 (by decide)]; exact h2
  · refine rNd_cp (h5 j hj) ?_ ?_ ?_ ?_ ?_ (fun _ _ => rfl) (fun i _ => ?_) (fun i _ => ?_)
    · rw [hf 40 (by decide)]
    · rw [hf 41 (by decide)]
    · rw [hf 42 (by decide)]
    · rw [hf 43 (by decide)]
    · rw [hf 44 (by decide)]
    · rw [hf 46 (by decide)]
    · rw [hf 47 (by decide)]
theorem vlN_O {L : List Dc} {j : Nat} {e : Dc} (h : L[j]? = some e) : vlN nd m w0 w1 rr L j = evS nd (gvF nd m w0 w1 rr (fun i => mkO e (lfD nd m i))) m 0 := by
  unfold vlN
  have : (fun i => mkA L (lfD nd m i) j) = fun i => mkO e (lfD nd m i) := by
    funext i
    exact mkA_O h
  rw [this]
end FI
