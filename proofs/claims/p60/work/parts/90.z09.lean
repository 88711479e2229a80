/-! the reference: whether a token fits a leaf; phrases, nearness -/
theorem tdI_N {d : Nd} {w : Nat} (h : w < 2 ^ 63) : tdI d (lN w) = tdB d w := by
  unfold tdI
  rw [lN_nat h]
/-- whether a stem fits a leaf of words -/
noncomputable def ftB (l : LGt) (d : Nd) (s : Int64) : Bool := (tdI d s || anyB (fun i => decide (l.1 i = s) && tdI d (l.2.1 i)) l.2.2.1) && !l.2.2.2 s
/-- seconds are words -/
def scW (l : LGt) : Prop := ∀ i, i < l.2.2.1 → ∃ w, w < 37 ^ 12 ∧ l.2.1 i = lN w
section FT
variable {v v' : Nat → Int32} {f f' : Nat → Nat → Int32} {g g' : Nat → Nat → Int64} {l : LGt} {w o : Nat} {d : Nd}
theorem rNd_S2 (h : rS2 f f') (hN : rNd f g o d) : rNd f' g o d := by
  refine rNd_cp hN ?_ ?_ ?_ ?_ ?_ (fun _ _ => rfl) (fun i _ => ?_) (fun i _ => ?_)
  · rw [h 40 (by decide) (by decide)]
  · rw [h 41 (by decide) (by decide)]
  · rw [h 42 (by decide) (by decide)]
  · rw [h 43 (by decide) (by decide)]
  · rw [h 44 (by decide) (by decide)]
  · rw [h 46 (by decide) (by decide)]
  · rw [h 47 (by decide) (by decide)]
theorem rS2_tr {f'' : Nat → Nat → Int32} (h : rS2 f f') (h2 : rS2 f' f'') : rS2 f f'' := fun n a b => (h2 n a b).trans (h n a b)
/-- the places of a document in a field -/
def rPl (f : Nat → Nat → Int32) (g : Nat → Nat → Int64) (k fl K : Nat) (st : Nat → Int64) : Prop := (k < 2424 ∧ fl < 2) ∧ f 18 (2 * k + fl) = nI K ∧ K ≤ 20 ∧ (∀ q, g 17 (40 * k + (20 * fl + q)) = st q) ∧ ∀ q, q < K → ∃ w, w < 37 ^ 12 ∧ st q = lN w
variable {k fl K : Nat} {st : Nat → Int64}
theorem rPl_S2 (h : rS2 f f') (hP : rPl f g k fl K st) : rPl f' g k fl K st := by
  unfold rPl
  rw [h 18 (by decide) (by decide)]; exact hP
theorem tb_out {c : Int64} {p : Nat} (h : K ≤ p) : (pmk c (tkG l st K)).testBit p = false := by
  rw [bit_hs, decide_eq_false (by omega)]; rfl
theorem plN_some {m a b : Nat} (h1 : a ≤ b) (h2 : b < 20) (h3 : m.testBit b = true) (h4 : ∀ j, a ≤ j → j < b → m.testBit j = false) : plN m a = some b := by
  have e : fst0 (fun k => m.testBit (a + k)) (20 - a) = b - a := fst0_eq (fun j hj => h4 (a + j) (by omega) (by omega)) (by show m.testBit (a + (b - a)) = true; rw [show a + (b - a) = b by omega]; exact h3) (by omega)
  unfold plN
  rw [e, show a + (b - a) = b by omega, if_pos h2]
theorem plN_no {m a : Nat} (h4 : ∀ j, a ≤ j → j < 20 → m.testBit j = false) : plN m a = none := by
  have e : fst0 (fun k => m.testBit (a + k)) (20 - a) = 20 - a := fst0_all (fun j hj => h4 (a + j) (by omega) (by omega))
  unfold plN
  rw [e, if_neg (by omega)]
theorem tkC_get {T : List (Int64 × Nat)} {t : Nat} {x : Int64 × Nat} (hT : nT d = T) (hx : T[t]? = some x) : tkC d t = x.1 := by
  unfold tkC
  rw [hT, List.getD_eq_getElem?_getD, hx]; rfl
/-- tokens' places rise -/
def tkM (d : Nd) : Prop := ∀ (a b : Nat) (x y : Int64 × Nat), a < b → (nT d)[a]? = some x → (nT d)[b]? = some y → x.2 ≤ y.2
theorem gsN2_T (hM : tkM d) : ∀ i, i < (nT d).length → ∀ x y, (nT d)[0]? = some x → (nT d)[i]? = some y → y.2 = x.2 + gsN2 (gpT (nT d)) i := by
  intro i
  induction i with
  | zero =>
    intro _ x y hx hy
    rw [hx] at hy
    obtain rfl := Option.some.inj hy
    rfl
  | succ i ih =>
    intro hi x y hx hy
    obtain ⟨z, hz⟩ := get_ex (l := nT d) (k := i) (by omega)
    have h1 := ih (by omega) x z hx hz
    have h2 := hM i (i + 1) z y (by omega) hz hy
    have e : gpT (nT d) (i + 1) = y.2 - z.2 := by
      unfold gpT
      rw [if_neg (by omega), Nat.add_sub_cancel, List.getD_eq_getElem?_getD, List.getD_eq_getElem?_getD, hy, hz]; rfl
    rw [gsN2, e]
    omega
end FT
