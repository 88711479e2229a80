/-! the reference: a stop word is told -/
section SP
variable {v : Nat → Int32} {f : Nat → Nat → Int32} {g : Nat → Nat → Int64}
theorem p_stop {Q : QI} {P : Nat → Nat} {n k : Nat} {ad : Bool} (hp : mPow g) (hn : n ≤ 40) (hv : v 2 = nI n) (hP : ∀ j, j < n → f 2 j = nI (P j) ∧ P j < 65536) (hk : k ≤ 10) (hv6 : v 6 = nI k) (hv10 : v 10 = bI ad)
    (h0 : ∀ r, ¬ (wdC P n = 1 ∧ k < 10 ∧ ad = false) → Q (nI 0) (upd (upd v 4 (nI (wdC P n))) 99 (nI 1)) f (sR g 3 r))
    (h1 : ∀ r, wdC P n = 1 → k < 10 → ad = false → anyB (fun j => g 4 j == lN (stW (wdW P n 0))) k = true → Q (nI k) (upd (upd (upd v 4 (nI 1)) 99 (nI 0)) 2 (nI 0)) f (sR g 3 r))
    (h2 : ∀ r, wdC P n = 1 → k < 10 → ad = false → anyB (fun j => g 4 j == lN (stW (wdW P n 0))) k = false → Q (nI (k + 1)) (upd (upd (upd (upd v 4 (nI 1)) 99 (nI 0)) 6 (nI (k + 1))) 2 (nI 0)) f (sR (sR g 3 r) 4 (upR (g 4) k (lN (stW (wdW P n 0)))))) : r_stop Q v f g := by
  unfold r_stop
  refine p_reads hp hn hv hP ?_
  intro r hr
  have hc := wdC_le P n
  have e6 : (upd v 4 (nI (wdC P n))) 6 = nI k := by rw [upd_n (by decide)]; exact hv6
  have e10 : (upd v 4 (nI (wdC P n))) 10 = bI ad := by rw [upd_n (by decide)]; exact hv10
  have no : ¬ (wdC P n = 1 ∧ k < 10 ∧ ad = false) → r_stop_33 Q (upd v 4 (nI (wdC P n))) f (sR g 3 r) := by
    intro z
    unfold r_stop_33 r_stop_34
    exact p_goes (b1 := false) (b2 := true) (b3 := true) ⟨fun d => absurd rfl d, fun _ => h0 r z⟩
  rw [upd_e, e6, e10]
  refine ⟨fun c => no (fun z => c (by rw [z.1])), fun c => ⟨fun d => no (fun z => absurd ((nI_leI (by decide) (by omega)).mp d) (by omega)), fun d => ⟨fun a => no (fun z => by rw [z.2.2] at a; exact absurd rfl a), fun a => ?_⟩⟩⟩
  have c : wdC P n = 1 := (nI_eq (by omega) (by decide)).mp c
  have d : k < 10 := by have := mt (nI_leI (by decide) (show k < 2 ^ 31 by omega)).mpr d; omega
  have a : ad = false := bI_0.mp a
  unfold r_stop_34
  refine p_goes (b1 := true) (b2 := true) (b3 := true) ⟨fun _ => ⟨pk_in 0 20 (by decide), ?_⟩, fun d => absurd d (by decide)⟩
  have e0 : (nI 0).toNatClampNeg = 0 := nI_clamp (by decide)
  rw [e0, sR_s, hr 0 (by omega)]
  have hpr : mPow (sR g 3 r) := fun j hj => by rw [sR_n (by decide)]; exact hp j hj
  refine p_stem (wdW_63 P n 0) hpr ?_
  have e6b : (upd (upd v 4 (nI (wdC P n))) 99 (goX true true true)) 6 = nI k := by rw [upd_n (by decide)]; exact e6
  refine p_isStop (n := k) hk e6b ?_
  have e4 : (sR g 3 r) 4 = g 4 := sR_n (by decide)
  rw [e4, e6b]
  refine ⟨fun z => ?_, fun z => ?_⟩
  · have z := bI_n.mp z
    unfold r_stop_83
    rintro _ rfl
    rw [upd_n (show (6 : Nat) ≠ 2 by decide), e6b, c]
    exact h1 r c d a z
  · have z := bI_0.mp z
    refine ⟨pk_in k 10 d, ?_⟩
    rintro _ rfl _ rfl
    rw [nI_clamp (by omega), nI_add]
    unfold r_stop_83
    rintro _ rfl
    rw [upd_n (show (6 : Nat) ≠ 2 by decide), upd_e, mU_new, e4, c]
    exact h2 r c d a z
end SP
