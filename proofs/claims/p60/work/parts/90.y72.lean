/-! the class: the cache of what matches -/
/-- the finder's rows -/
def fdK (S : cS) (ρ : Nat → Nat) (fd rd hk hr cq cs ct cm st sp : Nat) (cmr : Nat → Nat) : Prop := cA S fd 1 ∧ ρ fd = 21 ∧ cr S 32 fd = some rd ∧ rwT S ρ fd 34 hk 20 28 ∧ rwT S ρ fd 35 hr 20 29 ∧ rwT S ρ fd 40 cq 8 30 ∧ rwT S ρ fd 41 cs 8 31 ∧ rwT S ρ fd 42 ct 8 32 ∧ mtT S ρ fd 43 cm cmr 8 33 ∧ rwT S ρ fd 44 st 4 34 ∧ rwT S ρ fd 45 sp 24 35
/-- the cache: queries' numbers, segments' numbers, times -/
def fdC (S : cS) (fd cq cs ct : Nat) (cmr : Nat → Nat) (CL : List (Nat × Nat × Nat)) (u : Nat) (mb : Nat → Nat → Nat → Bool) (sg : Nat → List Dc) : Prop := ci S 38 fd = nI CL.length ∧ CL.length ≤ 8 ∧ ci S 39 fd = nI u ∧ ∀ i x, CL[i]? = some x → (cI S cq i = nI x.1 ∧ x.1 < 2 ^ 31) ∧ (cI S cs i = nI x.2.1 ∧ x.2.1 < 2 ^ 31) ∧ (cI S ct i = nI x.2.2 ∧ x.2.2 ≤ u) ∧ ∀ j, j < (sg x.2.1).length → cI S (cmr i) j = bI (mb x.1 x.2.1 j)
/-- the entry that was used the longest ago -/
def olC (CL : List (Nat × Nat × Nat)) : Nat → Nat
  | 0 => 0
  | k + 1 => if (CL.getD (k + 1) (0, 0, 0)).2.2 < (CL.getD (olC CL k) (0, 0, 0)).2.2 then k + 1 else olC CL k
theorem olC_le (CL : List (Nat × Nat × Nat)) : ∀ k, olC CL k ≤ k
  | 0 => Nat.le_refl _
  | k + 1 => by
    have := olC_le CL k
    rw [olC]; split <;> omega
/-- the entry that is put next -/
def frC (CL : List (Nat × Nat × Nat)) : Nat := if CL.length < 8 then CL.length else olC CL 7
def ptC (CL : List (Nat × Nat × Nat)) (x : Nat × Nat × Nat) : List (Nat × Nat × Nat) := if CL.length < 8 then CL ++ [x] else CL.set (frC CL) x
theorem frC_lt (CL : List (Nat × Nat × Nat)) : frC CL < 8 := by
  have := olC_le CL 7
  unfold frC
  split <;> omega
theorem ptC_get {CL : List (Nat × Nat × Nat)} {x y : Nat × Nat × Nat} {i : Nat} (h8 : CL.length ≤ 8) (h : (ptC CL x)[i]? = some y) : (i = frC CL ∧ y = x) ∨ (i ≠ frC CL ∧ CL[i]? = some y) := by
  unfold ptC at h
  by_cases c : CL.length < 8
  · rw [if_pos c] at h
    have e : frC CL = CL.length := if_pos c
    rw [e]
    rcases app1_get.mp h with h | ⟨h1, h2⟩
    · exact Or.inr ⟨by have := get_lt h; omega, h⟩
    · exact Or.inl ⟨h1, h2⟩
  · rw [if_neg c] at h
    have := frC_lt CL
    rcases (set_get (by omega)).mp h with h | h
    · exact Or.inl h
    · exact Or.inr h
theorem ptC_len {CL : List (Nat × Nat × Nat)} {x : Nat × Nat × Nat} (h8 : CL.length ≤ 8) : (ptC CL x).length = (if CL.length < 8 then CL.length + 1 else CL.length) ∧ (ptC CL x).length ≤ 8 ∧ (ptC CL x)[frC CL]? = some x := by
  have hf := frC_lt CL
  unfold ptC
  by_cases c : CL.length < 8
  · rw [if_pos c, if_pos c, List.length_append]
    refine ⟨rfl, by show CL.length + 1 ≤ 8; omega, ?_⟩
    rw [show frC CL = CL.length from if_pos c]
    exact app1_get.mpr (Or.inr ⟨rfl, rfl⟩)
  · rw [if_neg c, if_neg c, List.length_set]
    exact ⟨rfl, h8, (set_get (by omega)).mpr (Or.inl ⟨rfl, rfl⟩)⟩
section CA
variable {S T U : cS} {ρ : Nat → Nat} {M : List Nat} {dp made V rd w0 w1 wr mo fo ro pl ra gi q m : Nat} {so : Nat → Nat} {sd : Nat → List Nat} {sg : Nat → List Dc} {ids : List Nat} {lv : Nat → Nat → Bool} {mk fs rw : Nat → Nat} {nd : Nat → Nd} {rr : Nat → Nat}
variable {fd hk hr cq cs ct cm st sp u : Nat} {cmr : Nat → Nat} {CL : List (Nat × Nat × Nat)} {mb : Nat → Nat → Nat → Bool}
theorem fdK_fk (h : fk S T ρ ρ M) (hM : 20 ∉ M) (hr' : ∀ z, cr T z fd = cr S z fd) (g : fdK S ρ fd rd hk hr cq cs ct cm st sp cmr) : fdK T ρ fd rd hk hr cq cs ct cm st sp cmr := by
  obtain ⟨g1, g2, g3, g4, g5, g6, g7, g8, g9, g10, g11⟩ := g
  exact ⟨fr_A h.1 g1, g2, (hr' _).trans g3, rwT_fr h.1 (hr' _) rfl g4, rwT_fr h.1 (hr' _) rfl g5, rwT_fr h.1 (hr' _) rfl g6, rwT_fr h.1 (hr' _) rfl g7, rwT_fr h.1 (hr' _) rfl g8, mtT_fr h.1 hM (hr' _) (fun _ _ => rfl) g9, rwT_fr h.1 (hr' _) rfl g10, rwT_fr h.1 (hr' _) rfl g11⟩
theorem q_freeEntry {Q : Int32 → cS → Prop} (fA : cA S fd 1) (ct1 : rwT S ρ fd 42 ct 8 32) (h38 : ci S 38 fd = nI CL.length) (h8 : CL.length ≤ 8) (ht : ∀ i x, CL[i]? = some x → cI S ct i = nI x.2.2 ∧ x.2.2 < 2 ^ 31) (h : ∀ T, cSub S T (fun z => z = fd) → (∀ z, cr T z fd = cr S z fd) → (∀ z, z ≠ 38 → ci T z fd = ci S z fd) → ci T 38 fd = nI (if CL.length < 8 then CL.length + 1 else CL.length) → Q (nI (frC CL)) T) : k_X1_freeEntry Q dp fd S := by
  unfold k_X1_freeEntry
  rw [h38]
  refine ⟨fA, pk_le 8 CL.length (fun z => ?_) (fun z => ⟨fA, fA, fun S4 e4 => ?_⟩)⟩
  · have e8 : CL.length = 8 := by omega
    have eF : frC CL = olC CL 7 := if_neg (by omega)
    unfold k_X1_freeEntry_30L
    refine lfp_cnt 7 (fun k y => y = (fd, nI (olC CL k), nI (k + 1), S)) ?_ rfl
    rintro P k _ hk7 rfl ih
    show k_X1_freeEntry_30 Q dp _ fd (nI (olC CL k)) (nI (k + 1)) S
    have ok := olC_le CL k
    obtain ⟨c1, c2, c3, c4⟩ := ct1
    unfold k_X1_freeEntry_30
    refine pk_le 8 (k + 1) (fun z2 => ?_) (fun z2 => ⟨fA, ct, c1, cX_mk c2 c3 (by decide) z2 rfl, fA, ct, c1, cX_mk c2 c3 (by decide) (show olC CL k < 8 by omega) rfl, ?_⟩)
    · obtain rfl : k = 7 := by omega
      rw [← eF]
      exact h S sub_rf (fun _ => rfl) (fun _ _ => rfl) (by rw [h38, if_neg (by omega)])
    · have g1 : ∀ i, i < 8 → cI S ct i = nI (CL.getD i (0, 0, 0)).2.2 ∧ (CL.getD i (0, 0, 0)).2.2 < 2 ^ 31 := fun i hi => by
        refine ht i _ ?_
        rw [List.getD_eq_getElem?_getD, List.getElem?_eq_getElem (show i < CL.length by omega)]; rfl
      rw [nI_clamp (show k + 1 < 2 ^ 31 by omega), nI_clamp (show olC CL k < 2 ^ 31 by omega), (g1 _ z2).1, (g1 _ (show olC CL k < 8 by omega)).1]
      have b1 := (g1 _ z2).2
      have b2 := (g1 _ (show olC CL k < 8 by omega)).2
      have fin : ∀ v, v = olC CL (k + 1) → k_X1_freeEntry_53 Q dp (fun b0 b1 b2 S => P (b0, b1, b2, S)) fd (nI v) (nI (k + 1)) S := by
        intro v hv
        unfold k_X1_freeEntry_53
        rintro _ rfl
        rw [nI_add, hv]
        exact ih _ (by omega) rfl
      exact pk_le (CL.getD (olC CL k) (0, 0, 0)).2.2 (CL.getD (k + 1) (0, 0, 0)).2.2 (fun z3 => fin _ (by rw [olC, if_neg (by omega)])) (fun z3 => fin _ (by rw [olC, if_pos z3]))
  · have s4 : cSub S S4 (fun z => z = fd) := e4 ▸ sub_Si rfl
    have h4 : ci S4 38 fd = nI (CL.length + 1) := by rw [hi_Si_s e4, nI_add]
    refine ⟨sub_A1 s4 fA, ?_⟩
    rw [h4, pk_sub (by omega), show CL.length + 1 - 1 = frC CL by rw [show frC CL = CL.length from if_pos z]; omega]
    exact h S4 s4 (fun z => by rw [e4]; rfl) (fun z hz => by rw [e4]; exact mU_nq hz) (by rw [if_pos z]; exact h4)
theorem q_entryOf {Q : Int32 → cS → Prop} {qn sn tk : Nat} (gk : fdK S ρ fd rd hk hr cq cs ct cm st sp cmr) (gc : fdC S fd cq cs ct cmr CL u mb sg) (h37 : ci S 37 fd = nI tk) (hu : u < 2 ^ 30) (hqn : qn < 2 ^ 31) (hsn : sn ∈ ids) (hsn2 : sn < 2 ^ 31) (g : rSt S ρ dp so sd sg made V ids lv rd w0 w1 wr mo fo ro pl ra gi mk fs rw q m nd) (hq : qOk nd m) (hl : (lfI nd m).length ≤ 24) (h1 : (qsS nd m).1 = 1) (hm : m < 100) (hw : w0 ≤ 9 ∧ w1 ≤ 9) (hrr : ∀ i, rr i ≤ 102) (hra : ∀ i, i < (lfI nd m).length → cI S ra i = nI (rr i)) (hmk : ∀ i, i < (lfI nd m).length → ∀ j, j < (sg sn).length → cI S (mk i) j = nI (mkA (sg sn) (lfD nd m i) j)) (hmb : ∀ j, j < (sg sn).length → mb qn sn j = (vlN nd m w0 w1 rr (sg sn) j).isSome) (hy : ∀ i x T, CL[i]? = some x → x.1 = qn → x.2.1 = sn → (∀ i' x', i' < i → CL[i']? = some x' → ¬ (x'.1 = qn ∧ x'.2.1 = sn)) → fk S T ρ ρ [21, 30, 31, 32, 33, 18, 27] → (∀ z, cr T z fd = cr S z fd) → (∀ z, z ≠ 37 → z ≠ 38 → z ≠ 39 → ci T z fd = ci S z fd) → ci T 37 fd = nI (tk + 1) → fdC T fd cq cs ct cmr (CL.set i (qn, sn, u + 1)) (u + 1) mb sg → Q (nI i) T) (hn : ∀ T, (∀ x, x ∈ CL → ¬ (x.1 = qn ∧ x.2.1 = sn)) → fk S T ρ ρ [21, 30, 31, 32, 33, 18, 27] → (∀ z, cr T z fd = cr S z fd) → (∀ z, z ≠ 37 → z ≠ 38 → z ≠ 39 → ci T z fd = ci S z fd) → ci T 37 fd = nI tk → fdC T fd cq cs ct cmr (ptC CL (qn, sn, u + 1)) (u + 1) mb sg → Q (nI (frC CL)) T) : k_X1_entryOf Q dp fd q (nI qn) (so sn) S := by
  obtain ⟨c38, c8, c39, cE⟩ := gc
  have gS := g.1 sn (g.2.1 sn hsn)
  have hK : (sg sn).length ≤ 100 := gS.2.2.2.2.2.1
  unfold k_X1_entryOf
  rw [c39, nI_add]
  refine ⟨gk.1, gk.1, fun S1 e1 => ?_⟩
  have s1 : cSub S S1 (fun z => z = fd) := e1 ▸ sub_Si rfl
  have f1 : fk S S1 ρ ρ [21] := fk_of s1 (fun a _ w => by rw [w, gk.2.1]; decide) (by decide)
  have r1 : ∀ z, cr S1 z fd = cr S z fd := fun z => by rw [e1]; rfl
  have i1 : ∀ z, z ≠ 39 → ci S1 z fd = ci S z fd := fun z hz => by rw [e1]; exact mU_nq hz
  have u1 : ci S1 39 fd = nI (u + 1) := hi_Si_s e1
  have gk1 := fdK_fk f1 (by decide) r1 gk
  have g1 := rSt_fk f1 (by decide) g
  have I1 : cI S1 = cI S := by rw [e1]; rfl
  obtain ⟨fA, fρ, fr32, hkR, hrR, cqR, csR, ctR, cmR, stR, spR'⟩ := id gk1
  have gS1 := g1.1 sn (g1.2.1 sn hsn)
  have nfd : ∀ {a k : Nat}, cA S1 a k → k ≠ 1 → ¬ a = fd := fun ha hk => cA_ne ha fA hk
  unfold k_X1_entryOf_13L
  refine lfp_cnt CL.length (fun k y => (∀ i x, i < k → CL[i]? = some x → ¬ (x.1 = qn ∧ x.2.1 = sn)) ∧ y = (fd, q, nI qn, so sn, nI k, S1)) ?_ ⟨fun i x hi => absurd hi (Nat.not_lt_zero i), rfl⟩
  rintro P k _ hk' ⟨hno, rfl⟩ ih
  show k_X1_entryOf_13 Q dp _ fd q (nI qn) (so sn) (nI k) S1
  have c38' : ci S1 38 fd = nI CL.length := (i1 38 (by decide)).trans c38
  unfold k_X1_entryOf_13
  rw [c38']
  refine ⟨fA, pk_le CL.length k (fun z => ?_) (fun z => pk_le 8 k (fun z2 => absurd z2 (by omega)) (fun z2 => ⟨fA, cq, cqR.1, cX_mk cqR.2.1 cqR.2.2.1 (by decide) z2 rfl, ?_⟩))⟩
  · -- a new entry
    obtain rfl : k = CL.length := by omega
    have hnone : ∀ x, x ∈ CL → ¬ (x.1 = qn ∧ x.2.1 = sn) := fun x hx => by
      obtain ⟨i, hi⟩ := List.getElem?_of_mem hx
      exact hno i x (get_lt hi) hi
    unfold k_X1_entryOf_84
    refine ⟨fA, q_freeEntry (CL := CL) fA ctR c38' c8 (fun i x hi => ?_) (fun S2 s2 r2 i2 n2 => ?_)⟩
    · have := (cE i x hi).2.2.1
      rw [I1]; exact ⟨this.1, by omega⟩
    have f2 : fk S1 S2 ρ ρ [21] := fk_of s2 (fun a _ w => by rw [w, fρ]; decide) (by decide)
    have gk2 := fdK_fk f2 (by decide) r2 gk1
    have eF := frC_lt CL
    have clF : (nI (frC CL)).toNatClampNeg = frC CL := nI_clamp (by omega)
    obtain ⟨fA2, -, -, -, -, cqR2, csR2, ctR2, cmR2, -, -⟩ := id gk2
    have I2 : ∀ {a k : Nat}, cA S1 a k → k ≠ 1 → cI S2 a = cI S1 a := fun ha hk => sub_cI s2 ha (nfd ha hk)
    refine ⟨fA2, cq, cqR2.1, cX_mk cqR2.2.1 cqR2.2.2.1 (by decide) eF rfl, fun S4 e4 => ?_⟩
    rw [clF] at e4
    have s4 : cSub S2 S4 (fun z => z = cq) := e4 ▸ sub_SI rfl
    have fS : ∀ {A B : cS} {b τ : Nat}, cSub A B (fun z => z = b) → ρ b = τ → 80 ≠ τ → fk A B ρ ρ [τ] := fun s e hne => fk_of s (fun a _ w => by rw [w, e]; exact List.mem_singleton.mpr rfl) (by simpa using hne)
    have f4 := fS s4 cqR2.2.2.2 (by decide)
    have r4 : ∀ z, cr S4 z fd = cr S2 z fd := fun z => by rw [e4]; rfl
    have gk4 := fdK_fk f4 (by decide) r4 gk2
    obtain ⟨fA4, -, -, -, -, cqR4, csR4, ctR4, cmR4, -, -⟩ := id gk4
    have f024 : fk S1 S4 ρ ρ [21, 30, 31, 32, 33, 18, 27] := fk_s (fk_up f2 (by decide)) (fk_up f4 (by decide))
    have gS4 := gSg_fr f024 (by decide) gS1
    refine ⟨fA4, cs, csR4.1, gS4.1.1, cX_mk csR4.2.1 csR4.2.2.1 (by decide) eF rfl, fun S6 e6 => ?_⟩
    rw [clF, gS4.1.2.1] at e6
    have s6 : cSub S4 S6 (fun z => z = cs) := e6 ▸ sub_SI rfl
    have f6 := fS s6 csR4.2.2.2 (by decide)
    have r6 : ∀ z, cr S6 z fd = cr S4 z fd := fun z => by rw [e6]; rfl
    have gk6 := fdK_fk f6 (by decide) r6 gk4
    obtain ⟨fA6, -, -, -, -, cqR6, csR6, ctR6, cmR6, -, -⟩ := id gk6
    have u6 : ci S6 39 fd = nI (u + 1) := by rw [e6, e4]; exact (i2 39 (by decide)).trans u1
    refine ⟨fA6, ct, ctR6.1, fA6, cX_mk ctR6.2.1 ctR6.2.2.1 (by decide) eF rfl, fun S8 e8 => ?_⟩
    rw [clF, u6] at e8
    have s8 : cSub S6 S8 (fun z => z = ct) := e8 ▸ sub_SI rfl
    have f8 := fS s8 ctR6.2.2.2 (by decide)
    have r8 : ∀ z, cr S8 z fd = cr S6 z fd := fun z => by rw [e8]; rfl
    have gk8 := fdK_fk f8 (by decide) r8 gk6
    have f08 : fk S S8 ρ ρ [21, 30, 31, 32, 33, 18, 27] := fk_s (fk_up f1 (by decide)) (fk_s f024 (fk_s (fk_up f6 (by decide)) (fk_up f8 (by decide))))
    have i8 : ∀ z, ci S8 z fd = ci S2 z fd := fun z => by rw [e8, e6, e4]; rfl
    have r08 : ∀ z, cr S8 z fd = cr S z fd := fun z => (r8 z).trans ((r6 z).trans ((r4 z).trans ((r2 z).trans (r1 z))))
    -- rows behind these
    have tne : ∀ {a b τ τ' : Nat}, ρ a = τ → ρ b = τ' → τ ≠ τ' → ¬ a = b := fun ea eb hne w => hne (by rw [← ea, w, eb])
    have qcq : ∀ i, cI S8 cq i = if i = frC CL then nI qn else cI S cq i := fun i => by
      rw [sub_cI s8 cqR6.2.1 (tne cqR6.2.2.2 ctR6.2.2.2 (by decide)), sub_cI s6 cqR4.2.1 (tne cqR4.2.2.2 csR4.2.2.2 (by decide))]
      by_cases c : i = frC CL
      · rw [if_pos c, c]; exact heI_SI_s e4
      · rw [if_neg c]; exact heI_SI_k e4 c (by rw [I2 cqR.2.1 (by decide), I1])
    have qcs : ∀ i, cI S8 cs i = if i = frC CL then nI sn else cI S cs i := fun i => by
      rw [sub_cI s8 csR6.2.1 (tne csR6.2.2.2 ctR6.2.2.2 (by decide))]
      by_cases c : i = frC CL
      · rw [if_pos c, c]; exact heI_SI_s e6
      · rw [if_neg c]; exact heI_SI_k e6 c (by rw [sub_cI s4 csR2.2.1 (tne csR2.2.2.2 cqR2.2.2.2 (by decide)), I2 csR.2.1 (by decide), I1])
    have qct : ∀ i, cI S8 ct i = if i = frC CL then nI (u + 1) else cI S ct i := fun i => by
      by_cases c : i = frC CL
      · rw [if_pos c, c]; exact heI_SI_s e8
      · rw [if_neg c]; exact heI_SI_k e8 c (by rw [sub_cI s6 ctR4.2.1 (tne ctR4.2.2.2 csR4.2.2.2 (by decide)), sub_cI s4 ctR2.2.1 (tne ctR2.2.2.2 cqR2.2.2.2 (by decide)), I2 ctR.2.1 (by decide), I1])
    have qcm : ∀ i, i < 8 → cI S8 (cmr i) = cI S (cmr i) := fun i hi => by
      have m1 := cmR.2.2.2.2.1 i hi
      have m2 := cmR2.2.2.2.2.1 i hi
      have m4 := cmR4.2.2.2.2.1 i hi
      have m6 := cmR6.2.2.2.2.1 i hi
      rw [sub_cI s8 m6.2.1 (tne m6.2.2.2 ctR6.2.2.2 (by decide)), sub_cI s6 m4.2.1 (tne m4.2.2.2 csR4.2.2.2 (by decide)), sub_cI s4 m2.2.1 (tne m2.2.2.2 cqR2.2.2.2 (by decide)), I2 m1.2.1 (by decide), I1]
    unfold k_X1_entryOf_123L
    refine lfp_cnt (sg sn).length (fun j y => ∃ S', cSub S8 S' (fun z => ρ z = 18 ∨ ρ z = 27 ∨ z = cmr (frC CL)) ∧ (∀ i, i < j → cI S' (cmr (frC CL)) i = bI (mb qn sn i)) ∧ y = (fd, q, so sn, nI (frC CL), nI j, S')) ?_ ⟨S8, sub_rf, fun i hi => absurd hi (Nat.not_lt_zero i), rfl⟩
    rintro P2 j _ hj ⟨S', s', hb, rfl⟩ ih2
    show k_X1_entryOf_123 Q dp _ fd q (so sn) (nI (frC CL)) (nI j) S'
    obtain ⟨fA8, -, -, -, -, cqR8, csR8, ctR8, cmR8, -, -⟩ := id gk8
    have mF8 := cmR8.2.2.2.2.1 (frC CL) eF
    have f' : fk S8 S' ρ ρ [18, 27, 33] := fk_of s' (fun a _ w => by
      rcases w with w | w | w
      · rw [w]; decide
      · rw [w]; decide
      · rw [w, mF8.2.2.2]; decide) (by decide)
    have f0' : fk S S' ρ ρ [21, 30, 31, 32, 33, 18, 27] := fk_s f08 (fk_up f' (by decide))
    have nF : ∀ {z : Nat}, ρ z = 21 → z ∈ cL S8 → ¬ (ρ z = 18 ∨ ρ z = 27 ∨ z = cmr (frC CL)) := fun e _ w => by
      rcases w with w | w | w
      · rw [e] at w; exact absurd w (by decide)
      · rw [e] at w; exact absurd w (by decide)
      · exact absurd (show (21 : Nat) = 33 by rw [← e, w, mF8.2.2.2]) (by decide)
    have r' : ∀ z, cr S' z fd = cr S8 z fd := fun z => sub_cr s' fA8 (nF fρ fA8.1)
    have i' : ∀ z, ci S' z fd = ci S8 z fd := fun z => sub_ci s' fA8 (nF fρ fA8.1)
    have gk' := fdK_fk f' (by decide) r' gk8
    have g' := rSt_fk f0' (by decide) g
    obtain ⟨gs', hid', gv', gr', gq'⟩ := id g'
    have gS' := gs' sn (hid' sn hsn)
    obtain ⟨fA', -, fr32', -, -, -, -, -, cmR', -, -⟩ := id gk'
    have mF' := cmR'.2.2.2.2.1 (frC CL) eF
    unfold k_X1_entryOf_123
    refine ⟨gS'.1.1, q_sgSize gS'.1 (pk_le (sg sn).length j (fun z2 => ?_) (fun z2 => pk_le 100 j (fun z3 => absurd z3 (by omega)) (fun z3 => ⟨fA', cm, cmR'.1, cX_mk cmR'.2.1 cmR'.2.2.1 (by decide) eF rfl, cmr (frC CL), by rw [clF]; exact mF'.1, fA', rd, fr32', gr'.1, ?_⟩)))⟩
    · obtain rfl : j = (sg sn).length := by omega
      have keepI : ∀ {a τ : Nat}, cA S8 a 14 → ρ a = τ → τ ≠ 18 → τ ≠ 27 → τ ≠ 33 → cI S' a = cI S8 a := fun ha e h1 h2 h3 => sub_cI s' ha (fun w => by
        rcases w with w | w | w
        · exact h1 (e.symm.trans w)
        · exact h2 (e.symm.trans w)
        · exact h3 (by rw [← e, w, mF8.2.2.2]))
      have pl := ptC_len (CL := CL) (x := (qn, sn, u + 1)) c8
      refine hn S' hnone f0' (fun z => (r' z).trans (r08 z)) (fun z z1 z2 z3 => (i' z).trans ((i8 z).trans ((i2 z z2).trans (i1 z z3)))) ((i' 37).trans ((i8 37).trans ((i2 37 (by decide)).trans ((i1 37 (by decide)).trans h37)))) ⟨?_, pl.2.1, ?_, fun i x hx => ?_⟩
      · rw [i', i8, n2, pl.1]
      · rw [i', i8]; exact (i2 39 (by decide)).trans u1
      · rw [keepI cqR8.2.1 cqR8.2.2.2 (by decide) (by decide) (by decide), keepI csR8.2.1 csR8.2.2.2 (by decide) (by decide) (by decide), keepI ctR8.2.1 ctR8.2.2.2 (by decide) (by decide) (by decide), qcq, qcs, qct]
        rcases ptC_get c8 hx with ⟨rfl, rfl⟩ | ⟨c, hx⟩
        · rw [if_pos rfl, if_pos rfl, if_pos rfl]
          exact ⟨⟨rfl, hqn⟩, ⟨rfl, hsn2⟩, ⟨rfl, Nat.le_refl _⟩, fun j hj => hb j hj⟩
        · rw [if_neg c, if_neg c, if_neg c]
          obtain ⟨y1, y2, y3, y4⟩ := cE i x hx
          have i8' : i < 8 := by have := get_lt hx; omega
          have m8 := cmR8.2.2.2.2.1 i i8'
          have nm : ¬ (ρ (cmr i) = 18 ∨ ρ (cmr i) = 27 ∨ cmr i = cmr (frC CL)) := fun w => by
            rcases w with w | w | w
            · rw [m8.2.2.2] at w; exact absurd w (by decide)
            · rw [m8.2.2.2] at w; exact absurd w (by decide)
            · exact c (cmR8.2.2.2.2.2 i _ i8' eF w)
          refine ⟨y1, y2, ⟨y3.1, by omega⟩, fun j hj => ?_⟩
          rw [sub_cI s' m8.2.1 nm, qcm i i8']; exact y4 j hj
    · have ra' : ∀ i, i < (lfI nd m).length → cI S' ra i = nI (rr i) := fun i hi => by
        have q1 := g.2.2.2.1.2.2.2.2.2.2.2.1
        rw [sub_cI f0'.1.1 q1.2.1 (by rw [q1.2.2.2]; decide)]; exact hra i hi
      have mk' : ∀ i, i < (lfI nd m).length → cI S' (mk i) j = nI (mkA (sg sn) (lfD nd m i) j) ∧ mkA (sg sn) (lfD nd m i) j < 2 ^ 20 := fun i hi => by
        have q1 := g.2.2.2.1.2.2.2.1.2.2.2.2.1 i (by omega)
        rw [sub_cI f0'.1.1 q1.2.1 (by rw [q1.2.2.2]; decide)]
        refine ⟨hmk i hi j z2, ?_⟩
        unfold mkA
        split
        · exact cpF_lt
        · exact tdK_lt (tlD_ok gS.2.2.2.2.1 _ _).1.2.1
      refine q_valueAt (rr := rr) (mA := fun i => mkA (sg sn) (lfD nd m i) j) gr' gq' hq h1 hl (by decide) (by decide) hm hw hrr z3 mk' ra' (fun S13 f13 => ?_)
      have mF13 := fr_A f13 mF'.2.1
      have ev : evS nd (gvF nd m w0 w1 rr (fun i => mkA (sg sn) (lfD nd m i) j)) m 0 = vlN nd m w0 w1 rr (sg sn) j := rfl
      have vb := vl_lt (mA := fun i => mkA (sg sn) (lfD nd m i) j) hq h1 hl hw hrr
      rw [ev] at vb ⊢
      have fin : ∀ b : Bool, b = mb qn sn j → k_X1_entryOf_167 Q dp (fun b0 b1 b2 b3 b4 S => P2 (b0, b1, b2, b3, b4, S)) fd q (so sn) (nI (frC CL)) (nI j) (bI b) (nI j) (cmr (frC CL)) S13 := by
        intro b hbm
        unfold k_X1_entryOf_167
        refine ⟨cX_mk mF13 ((sub_cn f13.1 mF'.2.1).trans mF'.2.2.1) (by decide) z3 rfl, fun S14 e14 => ?_⟩
        rintro _ rfl
        rw [nI_clamp (show j < 2 ^ 31 by omega)] at e14
        rw [nI_add]
        have s13 : cSub S' S13 (fun z => ρ z = 18 ∨ ρ z = 27 ∨ z = cmr (frC CL)) := sub_wk f13.1 (fun a _ w => by
          rcases List.mem_cons.mp w with w | w
          · exact Or.inl w
          · exact Or.inr (Or.inl (List.mem_singleton.mp w)))
        have s14 : cSub S13 S14 (fun z => z = cmr (frC CL)) := e14 ▸ sub_SI rfl
        refine ih2 _ z2 ⟨S14, sub_tr s' (sub_tr s13 s14 (fun _ _ w => Or.inr (Or.inr w))) (fun _ _ w => w), fun i hi => ?_, rfl⟩
        by_cases c : i = j
        · subst c; rw [← hbm]; exact heI_SI_s e14
        · refine heI_SI_k e14 c ?_
          rw [sub_cI f13.1 mF'.2.1 (by rw [mF'.2.2.2]; decide)]
          exact hb i (by omega)
      refine ⟨fun e2 => ?_, fun e2 => ?_⟩
      · refine fin true ?_
        rw [hmb j z2]
        cases e3 : vlN nd m w0 w1 rr (sg sn) j with
        | none => exact absurd ((cIn_ne (by omega)).mpr e3) e2
        | some v => rfl
      · refine fin false ?_
        rw [hmb j z2, (cIn_ne (by omega)).mp e2]; rfl
  · obtain ⟨x, hx⟩ := get_ex z
    obtain ⟨⟨x1, x1b⟩, ⟨x2, x2b⟩, ⟨x3, x3b⟩, x4⟩ := cE k x hx
    have clk : (nI k).toNatClampNeg = k := nI_clamp (by omega)
    have next : ¬ (x.1 = qn ∧ x.2.1 = sn) → k_X1_entryOf_78 Q dp (fun b0 b1 b2 b3 b4 S => P (b0, b1, b2, b3, b4, S)) fd q (nI qn) (so sn) (nI k) S1 := by
      intro hne
      unfold k_X1_entryOf_78
      rintro _ rfl
      rw [nI_add]
      refine ih _ z ⟨fun i y hi hy => ?_, rfl⟩
      by_cases c : i = k
      · subst c
        rw [hx] at hy
        rw [← Option.some.inj hy]; exact hne
      · exact hno i y (by omega) hy
    rw [clk, I1, x1]
    refine w_ne x.1 qn (fun e => next (fun w => e w.1)) (fun e => ⟨fA, cs, csR.1, cX_mk csR.2.1 csR.2.2.1 (by decide) z2 rfl, gS1.1.1, ?_⟩)
    rw [x2, gS1.1.2.1]
    refine w_ne x.2.1 sn (fun e2 => next (fun w => e2 w.2)) (fun e2 => ⟨fA, fA, fun S19 e19 => ?_⟩)
    rw [i1 37 (by decide), h37, nI_add] at e19
    have s19 : cSub S1 S19 (fun z => z = fd) := e19 ▸ sub_Si rfl
    have r19 : ∀ z, cr S19 z fd = cr S1 z fd := fun z => by rw [e19]; rfl
    have i19 : ∀ z, z ≠ 37 → ci S19 z fd = ci S1 z fd := fun z hz => by rw [e19]; exact mU_nq hz
    have ct19 := sub_A1 s19 ctR.2.1
    refine ⟨sub_A1 s19 fA, ct, (r19 _).trans ctR.1, sub_A1 s19 fA, cX_mk ct19 ((sub_cn s19 ctR.2.1).trans ctR.2.2.1) (by decide) z2 rfl, fun S21 e21 => ?_⟩
    rw [i19 39 (by decide), u1] at e21
    have s21 : cSub S19 S21 (fun z => z = ct) := e21 ▸ sub_SI rfl
    have I19 : cI S19 = cI S := by rw [e19]; exact I1
    have I21 : ∀ a, ¬ a = ct → cI S21 a = cI S a := fun a ha => by rw [e21, ← I19]; exact upR_n ha
    have tne : ∀ {a b τ τ' : Nat}, ρ a = τ → ρ b = τ' → τ ≠ τ' → ¬ a = b := fun ea eb hne w => hne (by rw [← ea, w, eb])
    refine hy k x S21 hx e e2 hno (fk_s (fk_up f1 (by decide)) (fk_s (fk_up (fk_of s19 (M := [21]) (fun a _ w => by rw [w, fρ]; decide) (by decide)) (by decide)) (fk_up (fk_of s21 (M := [32]) (fun a _ w => by rw [w, ctR.2.2.2]; decide) (by decide)) (by decide)))) (fun w => ?_) (fun w w1 w2 w3 => ?_) ?_ ⟨?_, by rw [List.length_set]; exact c8, ?_, fun i y hy => ?_⟩
    · rw [e21]; exact (r19 w).trans (r1 w)
    · rw [e21]; exact (i19 w w1).trans (i1 w w3)
    · rw [e21]; exact (show ci S19 37 fd = nI (tk + 1) from hi_Si_s e19)
    · rw [e21, List.length_set]; exact (i19 38 (by decide)).trans c38'
    · rw [e21]; exact (i19 39 (by decide)).trans u1
    · have m1 : ∀ i, i < 8 → ¬ cmr i = ct := fun i hi => tne (cmR.2.2.2.2.1 i hi).2.2.2 ctR.2.2.2 (by decide)
      rw [I21 cq (tne cqR.2.2.2 ctR.2.2.2 (by decide)), I21 cs (tne csR.2.2.2 ctR.2.2.2 (by decide))]
      rcases (set_get z).mp hy with ⟨rfl, rfl⟩ | ⟨c, hy⟩
      · refine ⟨⟨by rw [x1, e], hqn⟩, ⟨by rw [x2, e2], hsn2⟩, ⟨heI_SI_s e21, Nat.le_refl _⟩, fun j hj => ?_⟩
        rw [I21 _ (m1 i z2)]
        have := x4 j (by rw [e2]; exact hj)
        rw [e, e2] at this
        exact this
      · obtain ⟨y1, y2, y3, y4⟩ := cE i y hy
        have i8 : i < 8 := by have := get_lt hy; omega
        refine ⟨y1, y2, ⟨heI_SI_k e21 c (by rw [I19]; exact y3.1), by omega⟩, fun j hj => ?_⟩
        rw [I21 _ (m1 i i8)]; exact y4 j hj
end CA
