/-! the reference: synonyms -/
section GV
variable {v : Nat → Int32} {f : Nat → Nat → Int32} {g : Nat → Nat → Int64}
theorem p_gives {Q : QI} {j : Nat} {t : Int64} (hj : j < 10) (h : Q (bI (gvB (g 5) (g 6) j t)) v f g) : r_gives Q (nI j) t v f g := by
  have ej : (nI j).toNatClampNeg = j := nI_clamp (by omega)
  have loop : ∀ X : Bool, X = ((g 5 j == t) && !(g 6 j == t)) → r_gives_32L Q (nI j) t (bI X) (nI 0) v f g := by
    intro X hX
    unfold r_gives_32L
    refine lfp_ind (I := fun y => ∃ k, k ≤ j ∧ y = (nI j, t, bI (X && !(anyB (fun k => (g 5 k == t) && (g 6 k == g 6 j)) k)), nI k, v, f, g)) (μ := fun y => j - y.2.2.2.1.toNatClampNeg) ?_ ⟨0, by omega, by cases X <;> rfl⟩
    rintro P _ ⟨k, hk, rfl⟩ ih
    show r_gives_32 Q _ (nI j) t (bI (X && !(anyB (fun k => (g 5 k == t) && (g 6 k == g 6 j)) k))) (nI k) v f g
    have go : ∀ b : Bool, k < j → b = (X && !(anyB (fun k => (g 5 k == t) && (g 6 k == g 6 j)) (k + 1))) → r_gives_77 Q (fun b0 b1 b2 b3 v f g => P (b0, b1, b2, b3, v, f, g)) (nI j) t (nI k) (bI b) v f g := by
      intro b hkj hb
      unfold r_gives_77
      rintro _ rfl
      rw [nI_add]
      refine ih _ ⟨k + 1, by omega, by rw [hb]⟩ ?_
      show j - (nI (k + 1)).toNatClampNeg < j - (nI k).toNatClampNeg
      rw [nI_clamp (by omega), nI_clamp (by omega)]
      omega
    unfold r_gives_32
    refine ⟨fun c => ?_, fun c => ?_⟩
    · have c := (nI_leI (by omega) (by omega)).mp c
      obtain rfl : k = j := by omega
      refine ⟨⟨_, rfl⟩, ?_⟩
      unfold gvB at h
      rw [← hX] at h; exact h
    · have c : k < j := by have := mt (nI_leI (by omega) (by omega)).mpr c; omega
      refine ⟨fun d => ?_, fun d => ?_⟩
      · exact go false c (gv_0 (bI_0.mp d)).symm
      · have d := bI_n.mp d
        have ek : (nI k).toNatClampNeg = k := nI_clamp (by omega)
        refine ⟨pk_in k 10 (by omega), ?_⟩
        rw [ek, ej]
        refine ⟨fun e => go true c (gv_1 d (by show ((g 5 k == t) && _) = false; rw [beq_eq_false_iff_ne.mpr e]; rfl)).symm, fun e => ⟨pk_in k 10 (by omega), pk_in j 10 hj, fun e2 => ?_, fun e2 => ?_⟩⟩
        · exact go false c (gv_2 (by show ((g 5 k == t) && (g 6 k == g 6 j)) = true; rw [beq_iff_eq.mpr e, beq_iff_eq.mpr e2]; rfl)).symm
        · exact go true c (gv_1 d (by show ((g 5 k == t) && (g 6 k == g 6 j)) = false; rw [beq_eq_false_iff_ne.mpr e2, Bool.and_false])).symm
  unfold r_gives
  rw [ej]
  refine ⟨pk_in j 10 hj, fun c => ?_, fun c => ⟨pk_in j 10 hj, fun d => ?_, fun d => ?_⟩⟩
  · exact loop false (by rw [beq_eq_false_iff_ne.mpr c]; rfl)
  · exact loop false (by rw [beq_iff_eq.mpr d]; cases (g 5 j == t) <;> rfl)
  · exact loop true (by rw [beq_iff_eq.mpr c, beq_eq_false_iff_ne.mpr d]; rfl)
end GV
