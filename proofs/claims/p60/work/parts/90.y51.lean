/-! queries: nodes -/
/-- kind (the reference's), field, limit, parts; ordered; tokens; pattern; word -/
abbrev Nd := (Nat × Nat × Nat × Nat) × Bool × List (Int64 × Nat) × List Nat × Nat
def nK (d : Nd) : Nat := d.1.1
def nF (d : Nd) : Nat := d.1.2.1
def nL (d : Nd) : Nat := d.1.2.2.1
def nP (d : Nd) : Nat := d.1.2.2.2
def nO (d : Nd) : Bool := d.2.1
def nT (d : Nd) : List (Int64 × Nat) := d.2.2.1
def nQ (d : Nd) : List Nat := d.2.2.2.1
def nW (d : Nd) : Nat := d.2.2.2.2
/-- the class's kind -/
def ckN (k : Nat) : Nat := if k ≤ 1 then 0 else if k = 2 then 1 else if k ≤ 4 then 2 else if k = 5 then 3 else if k = 6 then 4 else 5
/-- the class's pattern -/
noncomputable def ptN (d : Nd) : List Nat := if nK d = 3 then (List.range (lnW (nW d))).map (dg (nW d)) ++ [38] else if nK d = 4 then nQ d else []
/-- how far a token is behind the one ahead of it -/
def gpT (l : List (Int64 × Nat)) (i : Nat) : Nat := if i = 0 then 0 else (l.getD i (0, 0)).2 - (l.getD (i - 1) (0, 0)).2
/-- a node's object -/
def ndT (S : cS) (ρ : Nat → Nat) (τ p : Nat) (d : Nd) (b : Bool) : Prop := cA S p 4 ∧ ρ p = τ ∧ (ci S 128 p = nI (ckN (nK d)) ∧ ci S 129 p = nI (nF d) ∧ ci S 130 p = nI (nL d) ∧ ci S 131 p = bI (nO d) ∧ ci S 132 p = nI (nP d) ∧ ci S 133 p = bI b) ∧ cw S 137 p = lN (if nK d = 5 then nW d else 0) ∧ (∃ a, cr S 134 p = some a ∧ cA S a 15 ∧ cn S a = (nT d).length ∧ ρ a = τ ∧ ∀ k x, (nT d)[k]? = some x → cJ S a k = x.1) ∧ (∃ a, cr S 135 p = some a ∧ cA S a 14 ∧ cn S a = (nT d).length ∧ ρ a = τ ∧ ∀ k, k < (nT d).length → cI S a k = nI (gpT (nT d) k)) ∧ (∃ a, cr S 136 p = some a ∧ cA S a 14 ∧ cn S a = (ptN d).length ∧ ρ a = τ ∧ ∀ k y, (ptN d)[k]? = some y → cI S a k = nI y) ∧ ∃ a, cr S 138 p = some a ∧ cA S a 14 ∧ cn S a = (if nK d = 5 then lnW (nW d) + 1 else 0) ∧ ρ a = 18
/-- a node that was just made -/
def ndI (S T : cS) (p : Nat) (k f l : Int32) : Prop := cSub S T (fun z => z = p) ∧ cA T p 4 ∧ (ci T 128 p = k ∧ ci T 129 p = f ∧ ci T 130 p = l ∧ ci T 131 p = bI false ∧ ci T 132 p = nI 0 ∧ ci T 133 p = bI false) ∧ cw T 137 p = 0 ∧ ∃ a b c e, (a ∉ cL S ∧ b ∉ cL S ∧ c ∉ cL S ∧ e ∉ cL S) ∧ (cr T 134 p = some a ∧ cA T a 15 ∧ cn T a = 0) ∧ (cr T 135 p = some b ∧ cA T b 14 ∧ cn T b = 0) ∧ (cr T 136 p = some c ∧ cA T c 14 ∧ cn T c = 0) ∧ (cr T 138 p = some e ∧ cA T e 14 ∧ cn T e = 0) ∧ b ≠ e ∧ c ≠ e
section ND
variable {S T : cS} {ρ ρ' : Nat → Nat} {dp p : Nat} {M : List Nat}
theorem q_ndInit {Q : cS → Prop} {mc ms : Nat} {k f l : Int32} (hp : cA S p 4) (hm : 4 ≤ mc) (h : ∀ T, ndI S T p k f l → Q T) : k_X4_init Q dp mc ms p k f l S := by
  unfold k_X4_init
  refine ⟨hp, fun S1 e1 => ?_⟩
  have s1 : cSub S S1 (fun z => z = p) := e1 ▸ sub_Si rfl
  refine ⟨sub_A1 s1 hp, fun S2 e2 => ?_⟩
  have s2 : cSub S S2 (fun z => z = p) := sub_tr s1 (e2 ▸ sub_Si rfl) (fun _ _ z => z)
  refine ⟨sub_A1 s2 hp, fun S3 e3 => ⟨0, rfl, by decide, by omega, by omega, fun a ha S6 e6 => ?_⟩⟩
  have s3 : cSub S S3 (fun z => z = p) := sub_tr s2 (e3 ▸ sub_Si rfl) (fun _ _ z => z)
  have s6 : cSub S S6 (fun z => z = p) := sub_tr s3 (e6 ▸ sub_A ha) (fun _ _ z => z)
  refine ⟨sub_A1 s6 hp, fun S7 e7 => ⟨0, rfl, by decide, by omega, by omega, fun b hb S10 e10 => ?_⟩⟩
  have u7 : cSub S6 S7 (fun z => z = p) := e7 ▸ sub_Sr rfl
  have s7 := sub_tr s6 u7 (fun _ _ z => z)
  have u10 : cSub S7 S10 (fun z => z = p) := e10 ▸ sub_A hb
  have s10 := sub_tr s7 u10 (fun _ _ z => z)
  refine ⟨sub_A1 s10 hp, fun S11 e11 => ⟨0, rfl, by decide, by omega, by omega, fun c hc S14 e14 => ?_⟩⟩
  have u11 : cSub S10 S11 (fun z => z = p) := e11 ▸ sub_Sr rfl
  have s11 := sub_tr s10 u11 (fun _ _ z => z)
  have u14 : cSub S11 S14 (fun z => z = p) := e14 ▸ sub_A hc
  have s14 := sub_tr s11 u14 (fun _ _ z => z)
  refine ⟨sub_A1 s14 hp, fun S15 e15 => ?_⟩
  have u15 : cSub S14 S15 (fun z => z = p) := e15 ▸ sub_Sr rfl
  have s15 := sub_tr s14 u15 (fun _ _ z => z)
  refine ⟨sub_A1 s15 hp, fun S16 e16 => ⟨0, rfl, by decide, by omega, by omega, fun e he S19 e19 => ?_⟩⟩
  have u16 : cSub S15 S16 (fun z => z = p) := e16 ▸ sub_Sw rfl
  have s16 := sub_tr s15 u16 (fun _ _ z => z)
  have u19 : cSub S16 S19 (fun z => z = p) := e19 ▸ sub_A he
  have s19 := sub_tr s16 u19 (fun _ _ z => z)
  refine ⟨sub_A1 s19 hp, fun S20 e20 => ?_⟩
  have u20 : cSub S19 S20 (fun z => z = p) := e20 ▸ sub_Sr rfl
  have s20 := sub_tr s19 u20 (fun _ _ z => z)
  refine ⟨sub_A1 s20 hp, fun S21 e21 => ?_⟩
  have u21 : cSub S20 S21 (fun z => z = p) := e21 ▸ sub_Si rfl
  have s21 := sub_tr s20 u21 (fun _ _ z => z)
  refine ⟨sub_A1 s21 hp, fun S22 e22 => ?_⟩
  have u22 : cSub S21 S22 (fun z => z = p) := e22 ▸ sub_Si rfl
  have s22 := sub_tr s21 u22 (fun _ _ z => z)
  refine ⟨sub_A1 s22 hp, fun S23 e23 => ⟨⟨by omega, by omega⟩, ?_⟩⟩
  have u23 : cSub S22 S23 (fun z => z = p) := e23 ▸ sub_Si rfl
  have s23 := sub_tr s22 u23 (fun _ _ z => z)
  -- from each row's making to the end
  have w22 := sub_tr u22 u23 (fun _ _ z => z)
  have w21 := sub_tr u21 w22 (fun _ _ z => z)
  have w20 := sub_tr u20 w21 (fun _ _ z => z)
  have w19 := sub_tr u19 w20 (fun _ _ z => z)
  have w16 := sub_tr u16 w19 (fun _ _ z => z)
  have w15 := sub_tr u15 w16 (fun _ _ z => z)
  have w14 := sub_tr u14 w15 (fun _ _ z => z)
  have w11 := sub_tr u11 w14 (fun _ _ z => z)
  have w10 := sub_tr u10 w11 (fun _ _ z => z)
  have w7 := sub_tr u7 w10 (fun _ _ z => z)
  have aA : cA S6 a 15 := ⟨hm_Ao e6, hk_Ao e6⟩
  have bA : cA S10 b 14 := ⟨hm_Ao e10, hk_Ao e10⟩
  have cA' : cA S14 c 14 := ⟨hm_Ao e14, hk_Ao e14⟩
  have eA : cA S19 e 14 := ⟨hm_Ao e19, hk_Ao e19⟩
  have bin : b ∈ cL S16 := (u16 b (u15 b (u14 b (u11 b bA.1).1.1).1.1).1.1).1.1
  have cin : c ∈ cL S16 := (u16 c (u15 c cA'.1).1.1).1.1
  refine h S23 ⟨s23, sub_A1 s23 hp, ⟨?_, ?_, hi_Si_s e23, ?_, ?_, ?_⟩, ?_, a, b, c, e, ⟨fun z => ha (s3 a z).1.1, fun z => hb (s7 b z).1.1, fun z => hc (s11 c z).1.1, fun z => he (s16 e z).1.1⟩, ⟨?_, sub_A1 w7 aA, (sub_cn w7 aA).trans (hn_Ao e6)⟩, ⟨?_, sub_A1 w11 bA, (sub_cn w11 bA).trans (hn_Ao e10)⟩, ⟨?_, sub_A1 w15 cA', (sub_cn w15 cA').trans (hn_Ao e14)⟩, ⟨?_, sub_A1 w20 eA, (sub_cn w20 eA).trans (hn_Ao e19)⟩, cm_nq he bin, cm_nq he cin⟩
  · exact hi_Si_q e23 (by decide) (hi_Si_q e22 (by decide) (hi_Si_s e21))
  · exact hi_Si_q e23 (by decide) (hi_Si_s e22)
  · exact hi_Si_q e23 (by decide) (hi_Si_q e22 (by decide) (hi_Si_q e21 (by decide) (hi_Sr e20 (hi_A e19 (hi_Sw e16 (hi_Sr e15 (hi_A e14 (hi_Sr e11 (hi_A e10 (hi_Sr e7 (hi_A e6 (hi_Si_q e3 (by decide) (hi_Si_q e2 (by decide) (hi_Si_s e1))))))))))))))
  · exact hi_Si_q e23 (by decide) (hi_Si_q e22 (by decide) (hi_Si_q e21 (by decide) (hi_Sr e20 (hi_A e19 (hi_Sw e16 (hi_Sr e15 (hi_A e14 (hi_Sr e11 (hi_A e10 (hi_Sr e7 (hi_A e6 (hi_Si_q e3 (by decide) (hi_Si_s e2)))))))))))))
  · exact hi_Si_q e23 (by decide) (hi_Si_q e22 (by decide) (hi_Si_q e21 (by decide) (hi_Sr e20 (hi_A e19 (hi_Sw e16 (hi_Sr e15 (hi_A e14 (hi_Sr e11 (hi_A e10 (hi_Sr e7 (hi_A e6 (hi_Si_s e3))))))))))))
  · exact hw_Si e23 (hw_Si e22 (hw_Si e21 (hw_Sr e20 (hw_A e19 (hw_Sw_s e16)))))
  · exact hr_Si e23 (hr_Si e22 (hr_Si e21 (hr_Sr_q e20 (by decide) (hr_A e19 (hr_Sw e16 (hr_Sr_q e15 (by decide) (hr_A e14 (hr_Sr_q e11 (by decide) (hr_A e10 (hr_Sr_s e7))))))))))
  · exact hr_Si e23 (hr_Si e22 (hr_Si e21 (hr_Sr_q e20 (by decide) (hr_A e19 (hr_Sw e16 (hr_Sr_q e15 (by decide) (hr_A e14 (hr_Sr_s e11))))))))
  · exact hr_Si e23 (hr_Si e22 (hr_Si e21 (hr_Sr_q e20 (by decide) (hr_A e19 (hr_Sw e16 (hr_Sr_s e15))))))
  · exact hr_Si e23 (hr_Si e22 (hr_Si e21 (hr_Sr_s e20)))
/-- tags of a new node -/
def ntg (S : cS) (ρ : Nat → Nat) (e : Nat) : Nat → Nat := fun z => if z ∈ cL S then ρ z else if z = e then 18 else 12
theorem ntg_o {e z : Nat} (h : z ∈ cL S) : ntg S ρ e z = ρ z := if_pos h
theorem ntg_n {e z : Nat} (h : z ∉ cL S) (h2 : z ≠ e) : ntg S ρ e z = 12 := by unfold ntg; rw [if_neg h, if_neg h2]
theorem ntg_e {e : Nat} (h : e ∉ cL S) : ntg S ρ e e = 18 := by unfold ntg; rw [if_neg h, if_pos rfl]
theorem ntg_fr {e : Nat} (s : cSub S T (fun _ => False)) : fr S T ρ (ntg S ρ e) [] := ⟨sub_wk s (fun _ _ z => z.elim), fun a ha _ => ntg_o ha⟩
theorem ndT_fr {τ : Nat} {d : Nd} {b : Bool} (h : fr S T ρ ρ' M) (hm : τ ∉ M) (h18 : ∀ a, a ∈ cL S → ρ a = 18 → ρ' a = 18) (g : ndT S ρ τ p d b) : ndT T ρ' τ p d b := by
  obtain ⟨g1, g2, ⟨i1, i2, i3, i4, i5, i6⟩, gw, ⟨a, a1, a2, a3, a4, a5⟩, ⟨c, c1, c2, c3, c4, c5⟩, ⟨q, q1, q2, q3, q4, q5⟩, ⟨e, e1, e2, e3, e4⟩⟩ := g
  have fp : ρ p ∉ M := by rw [g2]; exact hm
  have ii : ∀ q, ci T q p = ci S q p := fun q => fr_ci h g1 fp
  have rr : ∀ q, cr T q p = cr S q p := fun q => fr_cr h g1 fp
  have nM : ∀ {z : Nat}, ρ z = τ → ρ z ∉ M := fun e => by rw [e]; exact hm
  exact ⟨fr_A h g1, fr_tg h g1.1 g2 hm, ⟨(ii _).trans i1, (ii _).trans i2, (ii _).trans i3, (ii _).trans i4, (ii _).trans i5, (ii _).trans i6⟩, (sub_cw h.1 g1 fp).trans gw, ⟨a, (rr _).trans a1, fr_A h a2, (sub_cn h.1 a2).trans a3, fr_tg h a2.1 a4 hm, by rw [sub_cJ h.1 a2 (nM a4)]; exact a5⟩, ⟨c, (rr _).trans c1, fr_A h c2, (sub_cn h.1 c2).trans c3, fr_tg h c2.1 c4 hm, by rw [sub_cI h.1 c2 (nM c4)]; exact c5⟩, ⟨q, (rr _).trans q1, fr_A h q2, (sub_cn h.1 q2).trans q3, fr_tg h q2.1 q4 hm, by rw [sub_cI h.1 q2 (nM q4)]; exact q5⟩, ⟨e, (rr _).trans e1, fr_A h e2, (sub_cn h.1 e2).trans e3, h18 e e2.1 e4⟩⟩
theorem q_patternOf {Q : Int32 → cS → Prop} {x : Nat} (hx : x < 65536) (h : Q (nI (if x = 63 then 37 else if x = 42 then 38 else figN x)) S) : k_X4_patternOf Q dp (nI x) S := by
  unfold k_X4_patternOf
  refine w_ne x 63 (fun e => w_ne x 42 (fun e2 => q_digitOf hx ?_) (fun e2 => ?_)) (fun e => ?_)
  · rw [if_neg e, if_neg e2] at h; exact h
  · rw [if_neg e, if_pos e2] at h; exact h
  · rw [if_pos e] at h; exact h
/-- a group -/
theorem q_ofParts {Q : Nat → cS → Prop} {mc ms k n l : Nat} (hk : 6 ≤ k ∧ k ≤ 7) (hm : 5 ≤ mc) (hs : 11 ≤ ms) (h : ∀ T ρ' p, fr S T ρ ρ' [] → p ∉ cL S → ndT T ρ' 12 p ((k, 0, l, n), false, [], [], 0) false → Q p T) : k_X4_ofParts Q dp mc ms (nI (ckN k)) (nI n) (nI l) S := by
  unfold k_X4_ofParts
  refine ⟨⟨by omega, by omega⟩, fun p hp S2 e2 => ⟨4, 0, by omega, by omega, q_ndInit ⟨hm_No e2, hk_No e2⟩ (Nat.le_refl _) (fun S5 g => ?_)⟩⟩
  have s2 : cSub S S2 (fun _ => False) := e2 ▸ sub_N hp
  obtain ⟨s5, p5, ⟨i1, i2, i3, i4, i5, i6⟩, gw, a, b, c, e, ⟨n1, n2, n3, n4⟩, ⟨a1, a2, a3⟩, ⟨b1, b2, b3⟩, ⟨c1, c2, c3⟩, ⟨d1, d2, d3⟩, be, ce⟩ := g
  refine ⟨p5, fun S6 e6 => ⟨⟨by omega, by omega⟩, ?_⟩⟩
  have s6 : cSub S5 S6 (fun z => z = p) := e6 ▸ sub_Si rfl
  have s06 : cSub S S6 (fun _ => False) := sub_tr s2 (sub_tr s5 s6 (fun _ _ z => z)) (fun x hx z => absurd z (cm_nq hp hx))
  have out : ∀ {z : Nat}, z ∉ cL S2 → z ∉ cL S := fun h z => h (s2 _ z).1.1
  have np : ∀ {z k : Nat}, cA S5 z k → k ≠ 4 → z ≠ p := fun hz hk => cA_ne hz p5 hk
  have tg : ∀ {z k : Nat}, cA S5 z k → z ∉ cL S2 → z ≠ e → ntg S ρ e z = 12 := fun _ hz he => ntg_n (out hz) he
  have r6 : ∀ q, cr S6 q p = cr S5 q p := fun q => hr_Si e6 rfl
  have i6' : ∀ q, q ≠ 132 → ci S6 q p = ci S5 q p := fun q hq => hi_Si_q e6 hq rfl
  have k5 : ¬ k = 5 := by omega
  have pt : ptN ((k, 0, l, n), false, [], [], 0) = [] := by unfold ptN nK; rw [if_neg (show ¬ k = 3 by omega), if_neg (show ¬ k = 4 by omega)]
  refine h S6 (ntg S ρ e) p (ntg_fr s06) hp ⟨sub_A1 s6 p5, ntg_n hp (cA_ne p5 d2 (by decide)), ⟨(i6' _ (by decide)).trans i1, (i6' _ (by decide)).trans i2, (i6' _ (by decide)).trans i3, (i6' _ (by decide)).trans i4, hi_Si_s e6, (i6' _ (by decide)).trans i6⟩, ?_, ⟨a, (r6 _).trans a1, sub_A1 s6 a2, (sub_cn s6 a2).trans a3, tg a2 n1 (cA_ne a2 d2 (by decide)), fun k x hk => absurd (get_lt hk) (Nat.not_lt_zero k)⟩, ⟨b, (r6 _).trans b1, sub_A1 s6 b2, (sub_cn s6 b2).trans b3, tg b2 n2 be, fun k hk => absurd hk (Nat.not_lt_zero k)⟩, ⟨c, (r6 _).trans c1, sub_A1 s6 c2, by rw [pt]; exact (sub_cn s6 c2).trans c3, tg c2 n3 ce, fun k y hk => by rw [pt] at hk; exact absurd (get_lt hk) (Nat.not_lt_zero k)⟩, ⟨e, (r6 _).trans d1, sub_A1 s6 d2, ?_, ntg_e (out n4)⟩⟩
  · show cw S6 137 p = lN (if k = 5 then 0 else 0)
    rw [if_neg k5, e6]; exact gw
  · show cn S6 e = if k = 5 then _ else 0
    rw [if_neg k5]; exact (sub_cn s6 d2).trans d3
end ND
