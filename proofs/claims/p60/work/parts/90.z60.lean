/-! the start: what a constructor leaves -/
/-- only o has changed, and of its fields those of F alone -/
def ext (S T : cS) (ρ ρ' : Nat → Nat) (o : Nat) (F : List Nat) : Prop := cSub S T (fun z => z = o) ∧ (∀ a, a ∈ cL S → ρ' a = ρ a) ∧ (∀ p, p ∉ F → cr T p o = cr S p o) ∧ ∀ p, p ∉ F → ci T p o = ci S p o
section EXT
variable {S S1 T U : cS} {ρ ρ' ρ'' : Nat → Nat} {o q fld k n τ : Nat} {F G : List Nat}
theorem ext_rf : ext S S ρ ρ o F := ⟨sub_rf, fun _ _ => rfl, fun _ _ => rfl, fun _ _ => rfl⟩
theorem ext_tr (h : ext S T ρ ρ' o F) (g : ext T U ρ' ρ'' o G) : ext S U ρ ρ'' o (G ++ F) := ⟨sub_tr h.1 g.1 (fun _ _ z => z), fun a ha => (g.2.1 a (h.1 a ha).1.1).trans (h.2.1 a ha), fun p hp => (g.2.2.1 p (fun w => hp (List.mem_append_left _ w))).trans (h.2.2.1 p (fun w => hp (List.mem_append_right _ w))), fun p hp => (g.2.2.2 p (fun w => hp (List.mem_append_left _ w))).trans (h.2.2.2 p (fun w => hp (List.mem_append_right _ w)))⟩
theorem ext_A (h : ext S T ρ ρ' o F) {a j : Nat} (ha : cA S a j) : cA T a j := sub_A1 h.1 ha
theorem ext_i {x : Int32} (e : T = cSi S fld o x) : ext S T ρ ρ o [fld] := ⟨e ▸ sub_Si rfl, fun _ _ => rfl, fun p _ => by rw [e]; rfl, fun p hp => by rw [e]; exact mU_nq (fun c => hp (List.mem_singleton.mpr c))⟩
theorem ext_r {x : Option Nat} (e : T = cSr S fld o x) : ext S T ρ ρ o [fld] := ⟨e ▸ sub_Sr rfl, fun _ _ => rfl, fun p hp => by rw [e]; exact mU_nq (fun c => hp (List.mem_singleton.mpr c)), fun p _ => by rw [e]; rfl⟩
/-- a row is made and kept -/
theorem ext_row {kk : Nat} (ho : cA S o k) (hq : q ∉ cL S) (e1 : S1 = cNewA S q kk n) (e2 : T = cSr S1 fld o (some q)) : ext S T ρ (rtg S id ρ τ) o [fld] ∧ (cr T fld o = some q ∧ cA T q kk ∧ cn T q = n ∧ rtg S id ρ τ q = τ) ∧ cI T q = (fun _ => 0) ∧ cJ T q = (fun _ => 0) := by
  have s1 : cSub S S1 (fun z => z = o) := e1 ▸ sub_A hq
  have s1' : cSub S S1 (fun _ => False) := e1 ▸ sub_A hq
  have s2 : cSub S1 T (fun z => z = o) := e2 ▸ sub_Sr rfl
  refine ⟨⟨sub_tr s1 s2 (fun _ _ z => z), fun a ha => rtg_o ha, fun p hp => ?_, fun p _ => ?_⟩, ⟨hr_Sr_s e2, ⟨hm_Sr e2 (hm_Ao e1), hk_Sr e2 (hk_Ao e1)⟩, hn_Sr e2 (hn_Ao e1), rtg_n hq⟩, ?_, ?_⟩
  · have h1 : cr T p o = cr S1 p o := by rw [e2]; exact mU_nq (fun c => hp (List.mem_singleton.mpr c))
    exact h1.trans (sub_cr s1' ho (fun z => z))
  · exact (hi_Sr e2 rfl).trans (sub_ci s1' ho (fun z => z))
  · rw [show cI T q = cI S1 q by rw [e2]; rfl]; exact hI_Ao e1
  · rw [show cJ T q = cJ S1 q by rw [e2]; rfl]; exact hJ_Ao e1
theorem rw_of (h : cr T fld o = some q ∧ cA T q 14 ∧ cn T q = n ∧ ρ q = τ) : rwT T ρ o fld q n τ := h
/-- tags of a matrix -/
def mtg (S : cS) (ρ : Nat → Nat) (q τ : Nat) : Nat → Nat := fun a => if a ∈ cL S then ρ a else if a = q then 20 else τ
/-- a matrix is made and kept -/
theorem ext_mat {ro : Nat → Nat} (ho : cA S o k) (hq : q ∉ cL S) (hr : ∀ i, i < n → ro i ∉ cL S) (hn : ∀ i, i < n → ro i ≠ q) (hj : ∀ i j, i < n → j < n → ro i = ro j → i = j) (e1 : S1 = cNewM S q n 100 ro) (e2 : T = cSr S1 fld o (some q)) : ext S T ρ (mtg S ρ q τ) o [fld] ∧ mtT T (mtg S ρ q τ) o fld q ro n τ := by
  have s1 : ∀ {H : Nat → Prop}, cSub S S1 H := fun a ha => ⟨⟨hm_M e1 ha, hk_M e1 hq hr ha rfl, hn_M e1 hq hr ha rfl⟩, fun _ => ⟨fun p => ⟨hi_M e1 rfl, hr_M e1 rfl, hw_M e1 rfl⟩, hI_M e1 hr ha rfl, hJ_M e1 rfl, hO_M e1 hq ha rfl⟩⟩
  have s2 : cSub S1 T (fun z => z = o) := e2 ▸ sub_Sr rfl
  have mem : ∀ i, i < n → ro i ∈ (List.range n).map ro := fun i hi => List.mem_map.mpr ⟨i, List.mem_range.mpr hi, rfl⟩
  refine ⟨⟨sub_tr s1 s2 (fun _ _ z => z), fun a ha => if_pos ha, fun p hp => ?_, fun p _ => ?_⟩, hr_Sr_s e2, ⟨hm_Sr e2 (hm_Mo e1), hk_Sr e2 (hk_Mo e1)⟩, hn_Sr e2 ?_, ?_, fun i hi => ⟨?_, ⟨hm_Sr e2 ?_, hk_Sr e2 ?_⟩, hn_Sr e2 ?_, ?_⟩, hj⟩
  · have h1 : cr T p o = cr S1 p o := by rw [e2]; exact mU_nq (fun c => hp (List.mem_singleton.mpr c))
    exact h1.trans (sub_cr (F := fun _ => False) s1 ho (fun z => z))
  · exact (hi_Sr e2 rfl).trans (sub_ci (F := fun _ => False) s1 ho (fun z => z))
  · rw [e1]; exact if_pos rfl
  · show (if q ∈ cL S then ρ q else if q = q then 20 else τ) = 20
    rw [if_neg hq, if_pos rfl]
  · rw [show cO T q = cO S1 q by rw [e2]; rfl, e1]
    show (if q = q then (fun i => if i < n then some (ro i) else none) else cO S q) i = some (ro i)
    rw [if_pos rfl]
    exact if_pos hi
  · rw [e1]; exact List.mem_cons_of_mem _ (List.mem_append_right _ (mem i hi))
  · rw [e1]
    show (if ro i = q then 18 else if ro i ∈ (List.range n).map ro then 14 else cK S (ro i)) = 14
    rw [if_neg (hn i hi), if_pos (mem i hi)]
  · rw [e1]
    show (if ro i = q then n else if ro i ∈ (List.range n).map ro then 100 else cn S (ro i)) = 100
    rw [if_neg (hn i hi), if_pos (mem i hi)]
  · show (if ro i ∈ cL S then ρ (ro i) else if ro i = q then 20 else τ) = τ
    rw [if_neg (hr i hi), if_neg (hn i hi)]
theorem ext_rw {a : Nat} (h : ext S T ρ ρ' o F) (hf : F.contains fld = false) (g : rwT S ρ o fld a n τ) : rwT T ρ' o fld a n τ := ⟨(h.2.2.1 fld (fun c => by rw [List.contains_iff_mem.mpr c] at hf; exact Bool.noConfusion hf)).trans g.1, ext_A h g.2.1, (sub_cn h.1 g.2.1).trans g.2.2.1, (h.2.1 a g.2.1.1).trans g.2.2.2⟩
theorem ext_mt {a : Nat} {rows : Nat → Nat} (h : ext S T ρ ρ' o F) (ho : cA S o k) (hk : k ≠ 18) (hf : F.contains fld = false) (g : mtT S ρ o fld a rows n τ) : mtT T ρ' o fld a rows n τ := by
  obtain ⟨g1, g2, g3, g4, g5, g6⟩ := g
  refine ⟨(h.2.2.1 fld (fun c => by rw [List.contains_iff_mem.mpr c] at hf; exact Bool.noConfusion hf)).trans g1, ext_A h g2, (sub_cn h.1 g2).trans g3, (h.2.1 a g2.1).trans g4, fun i hi => ?_, g6⟩
  obtain ⟨a1, a2, a3, a4⟩ := g5 i hi
  exact ⟨by rw [sub_cO h.1 g2 (cA_ne g2 ho (Ne.symm hk))]; exact a1, ext_A h a2, (sub_cn h.1 a2).trans a3, (h.2.1 _ a2.1).trans a4⟩
theorem ext_I {a : Nat} (h : ext S T ρ ρ' o F) (ho : cA S o k) (ha : cA S a 14) (hk : k ≠ 14) : cI T a = cI S a := sub_cI h.1 ha (cA_ne ha ho (Ne.symm hk))
theorem ext_fr (h : ext S T ρ ρ' o F) (hρ : ρ o = τ) : fr S T ρ ρ' [τ] := ⟨sub_wk h.1 (fun a _ e => by rw [e, hρ]; exact List.mem_singleton.mpr rfl), fun a ha _ => h.2.1 a ha⟩
end EXT
section X7
variable {S : cS} {ρ : Nat → Nat} {dp : Nat}
/-- a reader -/
theorem q_rdInit {Q : cS → Prop} {o mc ms : Nat} (ho : cA S o 7) (hρ : ρ o = 19) (hm : 61 ≤ mc) (hs : 5510 ≤ ms) (h : ∀ T ρ' wr mo fo ro pl ra gi mk fs rw, cSub S T (fun z => z = o) → (∀ a, a ∈ cL S → ρ' a = ρ a) → rdr T ρ' o 3 1 wr mo fo ro pl ra gi mk fs rw → (∀ i, i < 24 → cI T ra i = nI 0) → Q T) : k_X7_init Q dp mc ms o S := by
  unfold k_X7_init
  refine ⟨2, rfl, by decide, by omega, by omega, fun q2 hq2 S3 e3 => ?_⟩
  have A3 : cA S3 q2 14 := ⟨hm_Ao e3, hk_Ao e3⟩
  have n3 : cn S3 q2 = 2 := hn_Ao e3
  refine ⟨cX_mk A3 n3 (by decide) (by decide) rfl, fun S4 e4 => ?_⟩
  have A4 : cA S4 q2 14 := ⟨hm_SI e4 A3.1, hk_SI e4 A3.2⟩
  refine ⟨cX_mk A4 (hn_SI e4 n3) (by decide) (by decide) rfl, fun S5 e5 => ?_⟩
  have e4 : S4 = cSI S3 q2 0 (nI 3) := e4
  have e5 : S5 = cSI S4 q2 1 (nI 1) := e5
  have A5 : cA S5 q2 14 := ⟨hm_SI e5 A4.1, hk_SI e5 A4.2⟩
  have n5 : cn S5 q2 = 2 := hn_SI e5 (hn_SI e4 n3)
  have s5 : cSub S S5 (fun _ => False) := by
    have s3 : cSub S S3 (fun _ => False) := e3 ▸ sub_A hq2
    have s35 : cSub S3 S5 (fun z => z = q2) := sub_tr (e4 ▸ sub_SI (F := fun z => z = q2) rfl) (e5 ▸ sub_SI (F := fun z => z = q2) rfl) (fun _ _ z => z)
    exact sub_tr s3 s35 (fun a ha z => absurd z (cm_nq hq2 ha))
  have o5 := sub_A1 s5 ho
  refine ⟨o5, fun S6 e6 => ?_⟩
  obtain ⟨ρ6, h6⟩ : ∃ r, r = rtg S id ρ 19 := ⟨_, rfl⟩
  have x6 : ext S S6 ρ ρ6 o [224] := by
    refine ⟨sub_tr (sub_wk s5 (fun _ _ z => z.elim)) (e6 ▸ sub_Sr (F := fun z => z = o) rfl) (fun _ _ z => z), fun a ha => by rw [h6]; exact rtg_o ha, fun p hp => ?_, fun p _ => ?_⟩
    · have h1 : cr S6 p o = cr S5 p o := by rw [e6]; exact mU_nq (fun c => hp (List.mem_singleton.mpr c))
      exact h1.trans (sub_cr s5 ho (fun z => z))
    · exact (hi_Sr e6 rfl).trans (sub_ci s5 ho (fun z => z))
  have w6 : rwT S6 ρ6 o 224 q2 2 19 := ⟨hr_Sr_s e6, ⟨hm_Sr e6 A5.1, hk_Sr e6 A5.2⟩, hn_Sr e6 n5, by rw [h6]; exact rtg_n hq2⟩
  have i0 : cI S6 q2 0 = nI 3 := by
    rw [show cI S6 q2 = cI S5 q2 by rw [e6]; rfl]
    exact heI_SI_k e5 (by decide) (heI_SI_s e4)
  have i1 : cI S6 q2 1 = nI 1 := by
    rw [show cI S6 q2 = cI S5 q2 by rw [e6]; rfl]
    exact heI_SI_s e5
  have o6 := ext_A x6 ho
  refine ⟨⟨by omega, by omega⟩, fun q7 r7 a1 a2 a3 a4 S8 e8 => ?_⟩
  refine ⟨?_, fun S9 e9 => ?_⟩
  · exact ⟨hm_M e8 o6.1, hk_M e8 a1 a2 o6.1 o6.2⟩
  obtain ⟨x9, m9⟩ := ext_mat (ρ := ρ6) (τ := 22) o6 a1 a2 a3 a4 e8 e9
  have o9 := ext_A x9 o6
  refine ⟨⟨by omega, by omega⟩, fun q10 r10 b1 b2 b3 b4 S11 e11 => ⟨⟨hm_M e11 o9.1, hk_M e11 b1 b2 o9.1 o9.2⟩, fun S12 e12 => ?_⟩⟩
  obtain ⟨x12, m12⟩ := ext_mat (ρ := mtg S6 ρ6 q7 22) (τ := 23) o9 b1 b2 b3 b4 e11 e12
  have o12 := ext_A x12 o9
  refine ⟨⟨by omega, by omega⟩, fun q13 r13 c1 c2 c3 c4 S14 e14 => ⟨⟨hm_M e14 o12.1, hk_M e14 c1 c2 o12.1 o12.2⟩, fun S15 e15 => ?_⟩⟩
  obtain ⟨x15, m15⟩ := ext_mat (ρ := mtg S9 (mtg S6 ρ6 q7 22) q10 23) (τ := 24) o12 c1 c2 c3 c4 e14 e15
  have o15 := ext_A x15 o12
  obtain ⟨ρ15, h15⟩ : ∃ r, r = mtg S12 (mtg S9 (mtg S6 ρ6 q7 22) q10 23) q13 24 := ⟨_, rfl⟩
  rw [← h15] at x15 m15
  refine ⟨6, rfl, by decide, by omega, by omega, fun q17 hq17 S18 e18 => ⟨⟨(sub_A1 (e18 ▸ sub_A (F := fun _ => False) hq17) o15).1, (sub_A1 (e18 ▸ sub_A (F := fun _ => False) hq17) o15).2⟩, fun S19 e19 => ?_⟩⟩
  obtain ⟨x19, w19, -, -⟩ := ext_row (ρ := ρ15) (τ := 25) o15 hq17 e18 e19
  have o19 := ext_A x19 o15
  obtain ⟨ρ19, h19⟩ : ∃ r, r = rtg S15 id ρ15 25 := ⟨_, rfl⟩
  rw [← h19] at x19 w19
  refine ⟨24, rfl, by decide, by omega, by omega, fun q21 hq21 S22 e22 => ⟨⟨(sub_A1 (e22 ▸ sub_A (F := fun _ => False) hq21) o19).1, (sub_A1 (e22 ▸ sub_A (F := fun _ => False) hq21) o19).2⟩, fun S23 e23 => ?_⟩⟩
  obtain ⟨x23, w23, z23, -⟩ := ext_row (ρ := ρ19) (τ := 26) o19 hq21 e22 e23
  have o23 := ext_A x23 o19
  obtain ⟨ρ23, h23⟩ : ∃ r, r = rtg S19 id ρ19 26 := ⟨_, rfl⟩
  rw [← h23] at x23 w23
  refine ⟨24, rfl, by decide, by omega, by omega, fun q25 hq25 S26 e26 => ⟨⟨(sub_A1 (e26 ▸ sub_A (F := fun _ => False) hq25) o23).1, (sub_A1 (e26 ▸ sub_A (F := fun _ => False) hq25) o23).2⟩, fun S27 e27 => ?_⟩⟩
  obtain ⟨x27, w27, -, -⟩ := ext_row (ρ := ρ23) (τ := 27) o23 hq25 e26 e27
  obtain ⟨ρ27, h27⟩ : ∃ r, r = rtg S23 id ρ23 27 := ⟨_, rfl⟩
  rw [← h27] at x27 w27
  have y23 := x27
  have y19 := ext_tr x23 y23
  have y15 := ext_tr x19 y19
  have y12 := ext_tr x15 y15
  have y9 := ext_tr x12 y12
  have y6 := ext_tr x9 y9
  have y0 := ext_tr x6 y6
  have I6 := ext_I y6 o6 w6.2.1 (by decide)
  have ra0 : ∀ i, i < 24 → cI S27 q21 i = nI 0 := fun i _ => by
    rw [ext_I y23 o23 w23.2.1 (by decide), z23]
    show (0 : Int32) = nI 0
    decide
  refine ⟨⟨by omega, by omega⟩, h S27 ρ27 q2 q7 q10 q13 q17 q21 q25 r7 r10 r13 y0.1 y0.2.1 ⟨ext_A y0 ho, (y0.2.1 o ho.1).trans hρ, ⟨ext_rw y6 rfl w6, by rw [I6]; exact i0, by rw [I6]; exact i1⟩, ext_mt y9 o9 (by decide) rfl m9, ext_mt y12 o12 (by decide) rfl m12, ext_mt y15 o15 (by decide) rfl m15, ext_rw y19 rfl (rw_of w19), ext_rw y23 rfl (rw_of w23), rw_of w27⟩ ra0⟩
end X7
section X1
variable {S : cS} {ρ : Nat → Nat} {dp : Nat}
/-- a finder -/
theorem q_fdInit {Q : cS → Prop} {o rd mc ms : Nat} (ho : cA S o 1) (hρ : ρ o = 21) (hm : 16 ≤ mc) (hs : 900 ≤ ms) (h : ∀ T ρ' hk hr cq cs ct cm st sp cmr, cSub S T (fun z => z = o) → (∀ a, a ∈ cL S → ρ' a = ρ a) → fdK T ρ' o rd hk hr cq cs ct cm st sp cmr → (ci T 33 o = nI 0 ∧ ci T 36 o = nI 0 ∧ ci T 37 o = nI 0 ∧ ci T 38 o = nI 0 ∧ ci T 39 o = nI 0) → Q T) : k_X1_init Q dp mc ms o rd S := by
  unfold k_X1_init
  refine ⟨ho, fun S1 e1 => ⟨20, rfl, by decide, by omega, by omega, fun q3 hq3 S4 e4 => ?_⟩⟩
  have x1 : ext S S1 ρ ρ o [33] := ext_i e1
  have o1 := ext_A x1 ho
  refine ⟨sub_A1 (e4 ▸ sub_A (F := fun _ => False) hq3) o1, fun S5 e5 => ?_⟩
  obtain ⟨x5, w5, -, -⟩ := ext_row (ρ := ρ) (τ := 28) o1 hq3 e4 e5
  have o5 := ext_A x5 o1
  obtain ⟨ρ5, h5⟩ : ∃ r, r = rtg S1 id ρ 28 := ⟨_, rfl⟩
  rw [← h5] at x5 w5
  refine ⟨20, rfl, by decide, by omega, by omega, fun q7 hq7 S8 e8 => ⟨sub_A1 (e8 ▸ sub_A (F := fun _ => False) hq7) o5, fun S9 e9 => ?_⟩⟩
  obtain ⟨x9, w9, -, -⟩ := ext_row (ρ := ρ5) (τ := 29) o5 hq7 e8 e9
  have o9 := ext_A x9 o5
  obtain ⟨ρ9, h9⟩ : ∃ r, r = rtg S5 id ρ5 29 := ⟨_, rfl⟩
  rw [← h9] at x9 w9
  refine ⟨o9, fun S10 e10 => ?_⟩
  have x10 : ext S9 S10 ρ9 ρ9 o [36] := ext_i e10
  have o10 := ext_A x10 o9
  refine ⟨o10, fun S11 e11 => ?_⟩
  have x11 : ext S10 S11 ρ9 ρ9 o [37] := ext_i e11
  have o11 := ext_A x11 o10
  refine ⟨o11, fun S12 e12 => ?_⟩
  have x12 : ext S11 S12 ρ9 ρ9 o [38] := ext_i e12
  have o12 := ext_A x12 o11
  refine ⟨o12, fun S13 e13 => ?_⟩
  have x13 : ext S12 S13 ρ9 ρ9 o [39] := ext_i e13
  have o13 := ext_A x13 o12
  refine ⟨8, rfl, by decide, by omega, by omega, fun q15 hq15 S16 e16 => ⟨sub_A1 (e16 ▸ sub_A (F := fun _ => False) hq15) o13, fun S17 e17 => ?_⟩⟩
  obtain ⟨x17, w17, -, -⟩ := ext_row (ρ := ρ9) (τ := 30) o13 hq15 e16 e17
  have o17 := ext_A x17 o13
  obtain ⟨ρ17, h17⟩ : ∃ r, r = rtg S13 id ρ9 30 := ⟨_, rfl⟩
  rw [← h17] at x17 w17
  refine ⟨8, rfl, by decide, by omega, by omega, fun q19 hq19 S20 e20 => ⟨sub_A1 (e20 ▸ sub_A (F := fun _ => False) hq19) o17, fun S21 e21 => ?_⟩⟩
  obtain ⟨x21, w21, -, -⟩ := ext_row (ρ := ρ17) (τ := 31) o17 hq19 e20 e21
  have o21 := ext_A x21 o17
  obtain ⟨ρ21, h21⟩ : ∃ r, r = rtg S17 id ρ17 31 := ⟨_, rfl⟩
  rw [← h21] at x21 w21
  refine ⟨8, rfl, by decide, by omega, by omega, fun q23 hq23 S24 e24 => ⟨sub_A1 (e24 ▸ sub_A (F := fun _ => False) hq23) o21, fun S25 e25 => ?_⟩⟩
  obtain ⟨x25, w25, -, -⟩ := ext_row (ρ := ρ21) (τ := 32) o21 hq23 e24 e25
  have o25 := ext_A x25 o21
  obtain ⟨ρ25, h25⟩ : ∃ r, r = rtg S21 id ρ21 32 := ⟨_, rfl⟩
  rw [← h25] at x25 w25
  refine ⟨⟨by omega, by omega⟩, fun q26 r26 a1 a2 a3 a4 S27 e27 => ⟨⟨hm_M e27 o25.1, hk_M e27 a1 a2 o25.1 o25.2⟩, fun S28 e28 => ?_⟩⟩
  obtain ⟨x28, m28⟩ := ext_mat (ρ := ρ25) (τ := 33) o25 a1 a2 a3 a4 e27 e28
  have o28 := ext_A x28 o25
  obtain ⟨ρ28, h28⟩ : ∃ r, r = mtg S25 ρ25 q26 33 := ⟨_, rfl⟩
  rw [← h28] at x28 m28
  refine ⟨4, rfl, by decide, by omega, by omega, fun q30 hq30 S31 e31 => ⟨sub_A1 (e31 ▸ sub_A (F := fun _ => False) hq30) o28, fun S32 e32 => ?_⟩⟩
  obtain ⟨x32, w32, -, -⟩ := ext_row (ρ := ρ28) (τ := 34) o28 hq30 e31 e32
  have o32 := ext_A x32 o28
  obtain ⟨ρ32, h32⟩ : ∃ r, r = rtg S28 id ρ28 34 := ⟨_, rfl⟩
  rw [← h32] at x32 w32
  refine ⟨24, rfl, by decide, by omega, by omega, fun q34 hq34 S35 e35 => ⟨sub_A1 (e35 ▸ sub_A (F := fun _ => False) hq34) o32, fun S36 e36 => ?_⟩⟩
  obtain ⟨x36, w36, -, -⟩ := ext_row (ρ := ρ32) (τ := 35) o32 hq34 e35 e36
  have o36 := ext_A x36 o32
  obtain ⟨ρ36, h36⟩ : ∃ r, r = rtg S32 id ρ32 35 := ⟨_, rfl⟩
  rw [← h36] at x36 w36
  refine ⟨o36, fun S37 e37 => ?_⟩
  have x37 : ext S36 S37 ρ36 ρ36 o [32] := ext_r e37
  have y36 := x37
  have y32 := ext_tr x36 y36
  have y28 := ext_tr x32 y32
  have y25 := ext_tr x28 y28
  have y21 := ext_tr x25 y25
  have y17 := ext_tr x21 y21
  have y13 := ext_tr x17 y17
  have y12 := ext_tr x13 y13
  have y11 := ext_tr x12 y12
  have y10 := ext_tr x11 y11
  have y9 := ext_tr x10 y10
  have y5 := ext_tr x9 y9
  have y1 := ext_tr x5 y5
  have y0 := ext_tr x1 y1
  have nI' : ∀ {F : List Nat} {p : Nat}, F.contains p = false → p ∉ F := fun h c => by rw [List.contains_iff_mem.mpr c] at h; exact Bool.noConfusion h
  refine ⟨⟨by omega, by omega⟩, h S37 ρ36 q3 q7 q15 q19 q23 q26 q30 q34 r26 y0.1 y0.2.1 ⟨ext_A y0 ho, (y0.2.1 o ho.1).trans hρ, hr_Sr_s e37, ext_rw y5 rfl (rw_of w5), ext_rw y9 rfl (rw_of w9), ext_rw y17 rfl (rw_of w17), ext_rw y21 rfl (rw_of w21), ext_rw y25 rfl (rw_of w25), ext_mt y28 o28 (by decide) rfl m28, ext_rw y32 rfl (rw_of w32), ext_rw y36 rfl (rw_of w36)⟩ ⟨(y1.2.2.2 33 (nI' rfl)).trans (hi_Si_s e1), (y10.2.2.2 36 (nI' rfl)).trans (hi_Si_s e10), (y11.2.2.2 37 (nI' rfl)).trans (hi_Si_s e11), (y12.2.2.2 38 (nI' rfl)).trans (hi_Si_s e12), (y13.2.2.2 39 (nI' rfl)).trans (hi_Si_s e13)⟩⟩
end X1
section X3
variable {S : cS} {ρ : Nat → Nat} {dp : Nat}
/-- a language -/
theorem q_lgInit {Q : cS → Prop} {o mc ms : Nat} {P : Nat → Nat} (ho : cA S o 3) (hρ : ρ o = 2) (hm : 8 ≤ mc) (hs : 95 ≤ ms) (h : ∀ T ρ' p, cSub S T (fun z => z = o) → (∀ a, a ∈ cL S → ρ' a = ρ a) → gLg T ρ' o 0 (fun _ => 0) 0 (fun _ => 0) (fun _ => 0) false → cr T 96 o = some p → gTx T ρ' 3 p 0 P → Q T) : k_X3_init Q dp mc ms o S := by
  unfold k_X3_init
  refine ⟨⟨by omega, by omega⟩, fun q1 hq1 S2 e2 => ⟨3, 40, by omega, by omega, ?_⟩⟩
  refine newPad ho hq1 e2 (Nat.le_refl _) (Nat.le_refl _) (fun S6 s6 c96 k96 i96 nT => ?_)
  obtain ⟨ρ6, h6⟩ : ∃ r, r = rtg S id ρ 3 := ⟨_, rfl⟩
  have x6 : ext S S6 ρ ρ6 o [96] := ⟨s6, fun a ha => by rw [h6]; exact rtg_o ha, fun p hp => k96 p (fun c => hp (List.mem_singleton.mpr c)), fun p _ => i96 p⟩
  have gp6 : gTx S6 ρ6 3 q1 0 P := gTx_new nT hq1 (fun a ha => by rw [h6]; exact rtg_n ha)
  have o6 := ext_A x6 ho
  refine ⟨20, rfl, by decide, by omega, by omega, fun q8 hq8 S9 e9 => ⟨sub_A1 (e9 ▸ sub_A (F := fun _ => False) hq8) o6, fun S10 e10 => ?_⟩⟩
  obtain ⟨x10, w10, -, -⟩ := ext_row (ρ := ρ6) (τ := 2) o6 hq8 e9 e10
  have o10 := ext_A x10 o6
  obtain ⟨ρ10, h10⟩ : ∃ r, r = rtg S6 id ρ6 2 := ⟨_, rfl⟩
  rw [← h10] at x10 w10
  refine ⟨o10, fun S11 e11 => ?_⟩
  have x11 : ext S10 S11 ρ10 ρ10 o [98] := ext_i e11
  have o11 := ext_A x11 o10
  refine ⟨10, rfl, by decide, by omega, by omega, fun q13 hq13 S14 e14 => ⟨sub_A1 (e14 ▸ sub_A (F := fun _ => False) hq13) o11, fun S15 e15 => ?_⟩⟩
  obtain ⟨x15, w15, -, z15⟩ := ext_row (ρ := ρ10) (τ := 2) o11 hq13 e14 e15
  have o15 := ext_A x15 o11
  obtain ⟨ρ15, h15⟩ : ∃ r, r = rtg S11 id ρ10 2 := ⟨_, rfl⟩
  rw [← h15] at x15 w15
  refine ⟨o15, fun S16 e16 => ?_⟩
  have x16 : ext S15 S16 ρ15 ρ15 o [100] := ext_i e16
  have o16 := ext_A x16 o15
  refine ⟨10, rfl, by decide, by omega, by omega, fun q18 hq18 S19 e19 => ⟨sub_A1 (e19 ▸ sub_A (F := fun _ => False) hq18) o16, fun S20 e20 => ?_⟩⟩
  obtain ⟨x20, w20, -, z20⟩ := ext_row (ρ := ρ15) (τ := 2) o16 hq18 e19 e20
  have o20 := ext_A x20 o16
  obtain ⟨ρ20, h20⟩ : ∃ r, r = rtg S16 id ρ15 2 := ⟨_, rfl⟩
  rw [← h20] at x20 w20
  refine ⟨10, rfl, by decide, by omega, by omega, fun q22 hq22 S23 e23 => ⟨sub_A1 (e23 ▸ sub_A (F := fun _ => False) hq22) o20, fun S24 e24 => ?_⟩⟩
  obtain ⟨x24, w24, -, z24⟩ := ext_row (ρ := ρ20) (τ := 2) o20 hq22 e23 e24
  have o24 := ext_A x24 o20
  obtain ⟨ρ24, h24⟩ : ∃ r, r = rtg S20 id ρ20 2 := ⟨_, rfl⟩
  rw [← h24] at x24 w24
  refine ⟨o24, fun S25 e25 => ?_⟩
  have x25 : ext S24 S25 ρ24 ρ24 o [103] := ext_i e25
  have o25 := ext_A x25 o24
  refine ⟨o25, fun S26 e26 => ?_⟩
  have x26 : ext S25 S26 ρ24 ρ24 o [104] := ext_i e26
  have y25 := x26
  have y24 := ext_tr x25 y25
  have y20 := ext_tr x24 y24
  have y16 := ext_tr x20 y20
  have y15 := ext_tr x16 y16
  have y11 := ext_tr x15 y15
  have y10 := ext_tr x11 y11
  have y6 := ext_tr x10 y10
  have y0 := ext_tr x6 y6
  have nI' : ∀ {F : List Nat} {p : Nat}, F.contains p = false → p ∉ F := fun h c => by rw [List.contains_iff_mem.mpr c] at h; exact Bool.noConfusion h
  have nz : ∀ {T : cS} {a : Nat}, cA T a 15 → cA T o 3 → ¬ a = o := fun h1 h2 => cA_ne h1 h2 (by decide)
  have mem : ∀ {U V : cS} {r r' : Nat → Nat} {F : List Nat} {a : Nat}, ext U V r r' o F → a ∈ cL U → a ∈ cL V := fun e ha => (e.1 _ ha).1.1
  have m8 : q8 ∈ cL S11 := mem x11 w10.2.1.1
  have m8b : q8 ∈ cL S16 := mem x16 (mem x15 m8)
  have m13 : q13 ∈ cL S16 := mem x16 w15.2.1.1
  have m8c : q8 ∈ cL S20 := mem x20 m8b
  have m13c : q13 ∈ cL S20 := mem x20 m13
  have m18 : q18 ∈ cL S20 := w20.2.1.1
  have o26 := ext_A y0 ho
  have ρo : ρ6 o = 2 := (x6.2.1 o ho.1).trans hρ
  have c97 := (y10.2.2.1 97 (nI' rfl)).trans w10.1
  have c99 := (y15.2.2.1 99 (nI' rfl)).trans w15.1
  have c101 := (y20.2.2.1 101 (nI' rfl)).trans w20.1
  have c102 := (y24.2.2.1 102 (nI' rfl)).trans w24.1
  refine ⟨⟨by omega, by omega⟩, h S26 ρ24 q1 y0.1 y0.2.1 ⟨⟨o26, ⟨(y16.2.2.2 100 (nI' rfl)).trans (hi_Si_s e16), by decide⟩, ⟨(y25.2.2.2 103 (nI' rfl)).trans (hi_Si_s e25), by decide⟩, q8, q13, q18, q22, ⟨c97, ext_A y10 w10.2.1, (sub_cn y10.1 w10.2.1).trans w10.2.2.1⟩, ⟨c99, ext_A y15 w15.2.1, (sub_cn y15.1 w15.2.1).trans w15.2.2.1, (sub_cJ y15.1 w15.2.1 (nz w15.2.1 o15)).trans z15⟩, ⟨c101, ext_A y20 w20.2.1, (sub_cn y20.1 w20.2.1).trans w20.2.2.1, (sub_cJ y20.1 w20.2.1 (nz w20.2.1 o20)).trans z20⟩, ⟨c102, ext_A y24 w24.2.1, (sub_cn y24.1 w24.2.1).trans w24.2.2.1, (sub_cJ y24.1 w24.2.1 (nz w24.2.1 o24)).trans z24⟩, cm_nq hq13 m8, cm_nq hq18 m8b, cm_nq hq22 m8c, cm_nq hq18 m13, cm_nq hq22 m13c, cm_nq hq22 m18⟩, hi_Si_s e26, fun z hz => ?_⟩ ((y6.2.2.1 96 (nI' rfl)).trans c96) (gTx_fr (ext_fr y6 ρo) (by decide) gp6)⟩
  rcases hz with rfl | hz | hz | hz | hz
  · exact (y0.2.1 _ ho.1).trans hρ
  · obtain rfl := Option.some.inj (c97.symm.trans hz)
    exact (y10.2.1 _ w10.2.1.1).trans w10.2.2.2
  · obtain rfl := Option.some.inj (c99.symm.trans hz)
    exact (y15.2.1 _ w15.2.1.1).trans w15.2.2.2
  · obtain rfl := Option.some.inj (c101.symm.trans hz)
    exact (y20.2.1 _ w20.2.1.1).trans w20.2.2.2
  · obtain rfl := Option.some.inj (c102.symm.trans hz)
    exact (y24.2.1 _ w24.2.1.1).trans w24.2.2.2
end X3
