/-! the reference: synonyms are told; columns -/
section SY
variable {v : Nat → Int32} {f : Nat → Nat → Int32} {g : Nat → Nat → Int64}
theorem p_synonym {Q : QI} {P : Nat → Nat} {n k : Nat} {ad : Bool} (hp : mPow g) (hn : n ≤ 40) (hv : v 2 = nI n) (hP : ∀ j, j < n → f 2 j = nI (P j) ∧ P j < 65536) (hk : k ≤ 10) (hv9 : v 9 = nI k) (hv10 : v 10 = bI ad)
    (h0 : ∀ r, ¬ (wdC P n = 2 ∧ k < 10 ∧ ad = false) → Q (nI 0) (upd (upd v 4 (nI (wdC P n))) 99 (nI 1)) f (sR g 3 r))
    (h1 : ∀ r, wdC P n = 2 → k < 10 → ad = false → Q (nI (k + 1)) (upd (upd (upd (upd v 4 (nI 2)) 99 (nI 0)) 9 (nI (k + 1))) 2 (nI 0)) f (sR (sR (sR g 3 r) 5 (upR (g 5) k (lN (stW (wdW P n 0))))) 6 (upR (g 6) k (lN (stW (wdW P n 1)))))) : r_synonym Q v f g := by
  unfold r_synonym
  refine p_reads hp hn hv hP ?_
  intro r hr
  have hc := wdC_le P n
  have e9 : (upd v 4 (nI (wdC P n))) 9 = nI k := by rw [upd_n (by decide)]; exact hv9
  have e10 : (upd v 4 (nI (wdC P n))) 10 = bI ad := by rw [upd_n (by decide)]; exact hv10
  have no : ¬ (wdC P n = 2 ∧ k < 10 ∧ ad = false) → r_synonym_33 Q (upd v 4 (nI (wdC P n))) f (sR g 3 r) := by
    intro z
    unfold r_synonym_33 r_synonym_34
    exact p_goes (b1 := false) (b2 := true) (b3 := true) ⟨fun d => absurd rfl d, fun _ => h0 r z⟩
  rw [upd_e, e9, e10]
  refine ⟨fun c => no (fun z => c (by rw [z.1])), fun c => ⟨fun d => no (fun z => absurd ((nI_leI (by decide) (by omega)).mp d) (by omega)), fun d => ⟨fun a => no (fun z => by rw [z.2.2] at a; exact absurd rfl a), fun a => ?_⟩⟩⟩
  have c : wdC P n = 2 := (nI_eq (by omega) (by decide)).mp c
  have d : k < 10 := by have := mt (nI_leI (by decide) (show k < 2 ^ 31 by omega)).mpr d; omega
  have a : ad = false := bI_0.mp a
  unfold r_synonym_34
  refine p_goes (b1 := true) (b2 := true) (b3 := true) ⟨fun _ => ⟨pk_in 0 20 (by decide), ?_⟩, fun d => absurd d (by decide)⟩
  have e0 : (nI 0).toNatClampNeg = 0 := nI_clamp (by decide)
  have e1 : (nI 1).toNatClampNeg = 1 := nI_clamp (by decide)
  rw [e0, sR_s, hr 0 (by omega)]
  have hpr : mPow (sR g 3 r) := fun j hj => by rw [sR_n (by decide)]; exact hp j hj
  refine p_stem (wdW_63 P n 0) hpr ?_
  have e9b : (upd (upd v 4 (nI (wdC P n))) 99 (goX true true true)) 9 = nI k := by rw [upd_n (by decide)]; exact e9
  rw [e9b]
  refine ⟨pk_in k 10 d, ?_⟩
  rintro _ rfl
  rw [nI_clamp (by omega), mU_new, show (sR g 3 r) 5 = g 5 from sR_n (by decide), e1, show (sR (sR g 3 r) 5 (upR (g 5) k (lN (stW (wdW P n 0))))) 3 = r from (sR_n (by decide)).trans sR_s, hr 1 (by omega)]
  refine ⟨pk_in 1 20 (by decide), ?_⟩
  have hpr2 : mPow (sR (sR g 3 r) 5 (upR (g 5) k (lN (stW (wdW P n 0))))) := fun j hj => by rw [sR_n (by decide)]; exact hpr j hj
  refine p_stem (wdW_63 P n 1) hpr2 ⟨pk_in k 10 d, ?_⟩
  rintro _ rfl _ rfl _ rfl
  rw [mU_new, e9b, nI_add, upd_n (show (9 : Nat) ≠ 2 by decide), upd_e, show (sR (sR g 3 r) 5 (upR (g 5) k (lN (stW (wdW P n 0))))) 6 = g 6 from (sR_n (by decide)).trans (sR_n (by decide)), c]
  exact h1 r c d a
theorem p_columns {Q : QV} {x y : Int32} (h1 : (inB x (nI 0) (nI 9) && inB y (nI 0) (nI 999)) = true → Q (upd (upd (upd v 99 (nI 0)) 13 x) 14 y) f g) (h0 : (inB x (nI 0) (nI 9) && inB y (nI 0) (nI 999)) = false → Q (upd v 99 (nI 1)) f g) : r_columns Q x y v f g := by
  have no : (inB x (nI 0) (nI 9) && inB y (nI 0) (nI 999)) = false → r_columns_26 Q x y v f g := by
    intro z
    unfold r_columns_26 r_columns_27
    exact p_goes (b1 := false) (b2 := true) (b3 := true) ⟨fun _ => h0 z, fun d => absurd rfl d⟩
  unfold r_columns
  refine p_in ⟨fun c => no (by rw [bI_0.mp c]; rfl), fun c => p_in ⟨fun d => no (by rw [bI_0.mp d, Bool.and_false]), fun d => ?_⟩⟩
  have z : (inB x (nI 0) (nI 9) && inB y (nI 0) (nI 999)) = true := by rw [bI_n.mp c, bI_n.mp d]; rfl
  unfold r_columns_27
  refine p_goes (b1 := true) (b2 := true) (b3 := true) ⟨fun e => absurd e (by decide), fun _ => ?_⟩
  rintro _ rfl _ rfl
  exact h1 z
end SY
