/-! both worlds together: wipe, stop, synonym, text, columns -/
theorem inB_ex {x : Int32} {lo hi : Nat} (hlo : lo < 2 ^ 31) (hhi : hi < 2 ^ 31) : inB x (nI lo) (nI hi) = true ↔ ∃ a, lo ≤ a ∧ a ≤ hi ∧ x = nI a := by
  constructor
  · intro e
    unfold inB at e
    rw [Bool.and_eq_true, decide_eq_true_iff, decide_eq_true_iff] at e
    have l1 := Int32.le_iff_toInt_le.mp e.1
    rw [nI_toInt hlo] at l1
    have nn : ¬ x < 0 := fun c => by
      have := Int32.lt_iff_toInt_lt.mp c
      rw [show (0 : Int32).toInt = 0 from rfl] at this
      omega
    obtain ⟨a, ha, hx⟩ := nI_of nn
    rw [hx] at e
    exact ⟨a, (nI_leI hlo ha).mp e.1, (nI_leI ha hhi).mp e.2, hx⟩
  · rintro ⟨a, h1, h2, rfl⟩
    rw [inB_N (by omega) hlo hhi]
    simp [inN]; omega
section CASC
variable {S T : cS} {ρ ρ' : Nat → Nat} {M Am Fm Gm : List Nat} {v v' : Nat → Int32} {f f' : Nat → Nat → Int32} {g g' : Nat → Nat → Int64} {dp x out k cd dd L : Nat} {x4 : Int32} {xs : Nat → Int32} {R : Int32 → Nat → Nat → cS → (Nat → Int32) → (Nat → Nat → Int32) → (Nat → Nat → Int64) → Prop}
variable {n : Nat} {P : Nat → Nat} {ks : Nat} {A : Nat → Int64} {yn : Nat} {F G : Nat → Int64} {ad : Bool} {c0 c1 n0 : Nat} {P0 : Nat → Nat} {n1 : Nat} {P1 : Nat → Nat}
theorem cls_out {C : Prop} {Q : cS → Prop} {y : Int64} (hC : C) (o : cA T out 15 ∧ cn T out = 1 ∧ ρ' out = 90) (h : ∀ S8, fr T S8 ρ' ρ' [90] → (cA S8 out 15 ∧ cn S8 out = 1 ∧ ρ' out = 90) → cJ S8 out (nI 0).toNatClampNeg = y → Q S8) : cX T out 15 (nI 0) ∧ ∀ S8 : cS, S8 = cSJ T out (nI 0).toNatClampNeg y → C ∧ Q S8 := by
  refine ⟨out_X o, ?_⟩
  intro S8 e8
  obtain ⟨f90, o2, j2⟩ := out_SJ (y := y) o
  have e8' : S8 = cSJ T out 0 y := e8
  rw [← e8'] at f90 o2 j2
  exact ⟨hC, h S8 f90 o2 j2⟩
theorem gLD_90 (h : fr S T ρ ρ [90]) {c0 c1 : Int32} (g : gLD S ρ x n P ks A yn F G ad c0 c1 n0 P0 n1 P1) : gLD T ρ x n P ks A yn F G ad c0 c1 n0 P0 n1 P1 := gLD_f h (by decide) g.2.1 (fun q _ => fr_cr h g.1 (by rw [g.2.1]; decide)) g
/-- the language changes -/
theorem rL_new {n' : Nat} {P' : Nat → Nat} {ks' : Nat} {A' : Nat → Int64} {yn' : Nat} {F' G' : Nat → Int64} (h : rF Am Fm Gm v f g v' f' g') (h1 : dj [10, 13, 14] Am) (h2 : dj [8] Fm) (h3 : dj [1, 7] Gm) (hp : v' 2 = nI n' ∧ n' ≤ 40 ∧ ∀ j, j < n' → f' 2 j = nI (P' j) ∧ P' j < 65536) (hs : v' 6 = nI ks' ∧ ks' ≤ 10 ∧ g' 4 = A') (hy : v' 9 = nI yn' ∧ yn' ≤ 10 ∧ g' 5 = F' ∧ g' 6 = G') (hr : rL v f g n P ks A yn F G ad c0 c1 n0 P0 n1 P1) : rL v' f' g' n' P' ks' A' yn' F' G' ad c0 c1 n0 P0 n1 P1 := by
  obtain ⟨a1, a2, a3, a4, a5, a6, a7, a8, a9⟩ := hr
  unfold rL rD1
  rw [h.1 10 (dj_n h1 (by decide)), h.1 13 (dj_n h1 (by decide)), h.1 14 (dj_n h1 (by decide)), h.2.1 8 (dj_n h2 (by decide)), h.2.2 7 (dj_n h3 (by decide))]
  exact ⟨mPow_fr (h.2.2 1 (dj_n h3 (by decide))) a1, hp, hs, hy, a5, a6, a7, a8, a9⟩
theorem tail_ok {cd dd : Nat} (hN : nxR R k dp x out x4) (h : Rel (k + 1) S dp x out v f g cd dd) : lw_tail R x4 cd dd S v f g := by
  intro y e
  rw [e]; exact hN _ _ _ _ _ _ h
end CASC
