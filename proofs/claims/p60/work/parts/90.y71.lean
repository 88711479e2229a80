/-! the class: hits are held -/
/-- where a rank belongs among the first hits -/
def psH (H : List (Nat × Nat)) (r : Nat) : Nat → Nat
  | 0 => 0
  | n + 1 => if (H.getD n (0, 0)).2 < r then psH H r n else n + 1
def inH (H : List (Nat × Nat)) (x : Nat × Nat) : List (Nat × Nat) := H.take (psH H x.2 H.length) ++ x :: H.drop (psH H x.2 H.length)
/-- the best hits, with one more -/
def hdL (H : List (Nat × Nat)) (mo : Nat) (x : Nat × Nat) : List (Nat × Nat) := if H.length < mo then inH H x else if x.2 ≤ (H.getD (H.length - 1) (0, 0)).2 then H else inH H.dropLast x
theorem psH_le (H : List (Nat × Nat)) (r : Nat) : ∀ n, psH H r n ≤ n
  | 0 => Nat.le_refl _
  | n + 1 => by
    have := psH_le H r n
    rw [psH]; split <;> omega
theorem inH_len {H : List (Nat × Nat)} {x : Nat × Nat} : (inH H x).length = H.length + 1 := insA_len (psH_le _ _ _)
theorem hdL_len {H : List (Nat × Nat)} {mo : Nat} {x : Nat × Nat} (h : H.length ≤ mo) (h1 : 1 ≤ mo) : (hdL H mo x).length ≤ mo ∧ 1 ≤ (hdL H mo x).length := by
  unfold hdL
  by_cases c : H.length < mo
  · rw [if_pos c, inH_len]; omega
  · rw [if_neg c]
    split
    · omega
    · rw [inH_len, List.length_dropLast]; omega
theorem gH_get {H : List (Nat × Nat)} {k : Nat} (h : k < H.length) : H[k]? = some (H.getD k (0, 0)) := by
  rw [List.getD_eq_getElem?_getD, List.getElem?_eq_getElem h]; rfl
/-- hits, in the finder's rows -/
def fdH (S : cS) (fd hk hr : Nat) (H : List (Nat × Nat)) : Prop := ci S 33 fd = nI H.length ∧ H.length ≤ 20 ∧ ∀ i x, H[i]? = some x → (cI S hk i = nI x.1 ∧ x.1 < 2 ^ 31) ∧ cI S hr i = nI x.2 ∧ x.2 < 2 ^ 31
section HD
variable {S T U : cS} {ρ : Nat → Nat} {dp fd hk hr : Nat} {H : List (Nat × Nat)}
/-- a hit is put in; the ones behind it move -/
theorem q_hold68 {Q : cS → Prop} {key r : Nat} (fA : cA S fd 1) (hk1 : rwT S ρ fd 34 hk 20 28) (hr1 : rwT S ρ fd 35 hr 20 29) (hl : H.length < 20) (hH : ∀ i x, H[i]? = some x → (cI S hk i = nI x.1 ∧ x.1 < 2 ^ 31) ∧ cI S hr i = nI x.2 ∧ x.2 < 2 ^ 31) (hkey : key < 2 ^ 31) (hrk : r < 2 ^ 31) (h : ∀ T, cSub S T (fun z => z = hk ∨ z = hr) → (∀ i x, (inH H (key, r))[i]? = some x → (cI T hk i = nI x.1 ∧ x.1 < 2 ^ 31) ∧ cI T hr i = nI x.2 ∧ x.2 < 2 ^ 31) → Q T) : k_X1_hold_68L Q dp fd (nI key) (nI r) (nI H.length) S := by
  obtain ⟨a1, a2, a3, a4⟩ := hk1
  obtain ⟨b1, b2, b3, b4⟩ := hr1
  have hne : ¬ hk = hr := fun e => absurd (show (28 : Nat) = 29 by rw [← a4, e, b4]) (by decide)
  have fk1 : ¬ (fd = hk ∨ fd = hr) := fun e => e.elim (fun e => absurd e (cA_ne fA a2 (by decide))) (fun e => absurd e (cA_ne fA b2 (by decide)))
  have key0 : ∀ p, p ≤ H.length → psH H r p = psH H r H.length → ∀ S', cSub S S' (fun z => z = hk ∨ z = hr) → (∀ i x, i < p → H[i]? = some x → cI S' hk i = nI x.1 ∧ cI S' hr i = nI x.2) → (∀ i x, p ≤ i → H[i]? = some x → cI S' hk (i + 1) = nI x.1 ∧ cI S' hr (i + 1) = nI x.2) → k_X1_hold_68L Q dp fd (nI key) (nI r) (nI p) S' := by
    intro p
    induction p with
    | zero =>
      intro hp hps S' s h1 h2
      unfold k_X1_hold_68L
      refine fun P hP => hP _ ?_
      show k_X1_hold_68 Q dp _ fd (nI key) (nI r) (nI 0) S'
      have fA' := sub_A1 s fA
      have rr : ∀ z, cr S' z fd = cr S z fd := fun z => sub_cr s fA fk1
      unfold k_X1_hold_68 k_X1_hold_124
      refine pk_le 0 0 (fun _ => ⟨fA', hr, (rr _).trans b1, cX_mk (sub_A1 s b2) ((sub_cn s b2).trans b3) (by decide) (show 0 < 20 by decide) rfl, fun S5 e5 => ?_⟩) (fun z => absurd z (by decide))
      have s5 : cSub S' S5 (fun z => z = hr) := e5 ▸ sub_SI rfl
      have r5 : ∀ z, cr S5 z fd = cr S' z fd := fun z => sub_cr s5 fA' (fun e => fk1 (Or.inr e))
      refine ⟨sub_A1 s5 fA', hk, (r5 _).trans ((rr _).trans a1), cX_mk (sub_A1 s5 (sub_A1 s a2)) ((sub_cn s5 (sub_A1 s a2)).trans ((sub_cn s a2).trans a3)) (by decide) (show 0 < 20 by decide) rfl, fun S7 e7 => ?_⟩
      have s7 : cSub S5 S7 (fun z => z = hk) := e7 ▸ sub_SI rfl
      rw [show (nI 0).toNatClampNeg = 0 from nI_clamp (by decide)] at e5 e7
      refine h S7 (sub_tr s (sub_tr (F := fun z => z = hk ∨ z = hr) (sub_wk s5 (fun _ _ z => Or.inr z)) s7 (fun _ _ z => Or.inl z)) (fun _ _ z => z)) (fun i x hx => ?_)
      unfold inH at hx
      rw [show psH H (key, r).2 H.length = 0 from hps.symm] at hx
      have q7 : cI S7 hr = cI S5 hr := sub_cI s7 (sub_A1 s5 (sub_A1 s b2)) (fun e => hne e.symm)
      have q5 : cI S5 hk = cI S' hk := sub_cI s5 (sub_A1 s a2) hne
      rcases (insA_get (Nat.zero_le _)).mp hx with ⟨c, -⟩ | ⟨rfl, rfl⟩ | ⟨c, hx⟩
      · exact absurd c (Nat.not_lt_zero i)
      · rw [q7]; exact ⟨⟨heI_SI_s e7, hkey⟩, heI_SI_s e5, hrk⟩
      · have bb := hH _ x hx
        have := h2 (i - 1) x (Nat.zero_le _) hx
        rw [show i - 1 + 1 = i by omega] at this
        rw [q7]
        exact ⟨⟨heI_SI_k e7 (by omega) (by rw [q5]; exact this.1), bb.1.2⟩, heI_SI_k e5 (by omega) this.2, bb.2.2⟩
    | succ p ih =>
      intro hp hps S' s h1 h2
      unfold k_X1_hold_68L
      refine fun P hP => hP _ ?_
      show k_X1_hold_68 Q dp _ fd (nI key) (nI r) (nI (p + 1)) S'
      have fA' := sub_A1 s fA
      have rr : ∀ z, cr S' z fd = cr S z fd := fun z => sub_cr s fA fk1
      have xA : ∀ {j : Nat}, j < 20 → cX S' hr 14 (nI j) := fun hj => cX_mk (sub_A1 s b2) ((sub_cn s b2).trans b3) (by decide) hj rfl
      have hx := gH_get (show p < H.length by omega)
      have hxx := hH p _ hx
      have e0 := h1 p _ (Nat.lt_succ_self p) hx
      have clp : (nI p).toNatClampNeg = p := nI_clamp (by omega)
      have stop : ¬ (H.getD p (0, 0)).2 < r → k_X1_hold_124 Q dp fd (nI key) (nI r) (nI (p + 1)) S' := by
        intro hge
        unfold k_X1_hold_124
        refine ⟨fA', hr, (rr _).trans b1, xA (by omega), fun S5 e5 => ?_⟩
        have s5 : cSub S' S5 (fun z => z = hr) := e5 ▸ sub_SI rfl
        have r5 : ∀ z, cr S5 z fd = cr S' z fd := fun z => sub_cr s5 fA' (fun e => fk1 (Or.inr e))
        refine ⟨sub_A1 s5 fA', hk, (r5 _).trans ((rr _).trans a1), cX_mk (sub_A1 s5 (sub_A1 s a2)) ((sub_cn s5 (sub_A1 s a2)).trans ((sub_cn s a2).trans a3)) (by decide) (show p + 1 < 20 by omega) rfl, fun S7 e7 => ?_⟩
        have s7 : cSub S5 S7 (fun z => z = hk) := e7 ▸ sub_SI rfl
        rw [nI_clamp (show p + 1 < 2 ^ 31 by omega)] at e5 e7
        refine h S7 (sub_tr s (sub_tr (F := fun z => z = hk ∨ z = hr) (sub_wk s5 (fun _ _ z => Or.inr z)) s7 (fun _ _ z => Or.inl z)) (fun _ _ z => z)) (fun i x hx2 => ?_)
        have hps2 : psH H r (p + 1) = p + 1 := by rw [psH, if_neg hge]
        unfold inH at hx2
        rw [show psH H (key, r).2 H.length = p + 1 from hps.symm.trans hps2] at hx2
        have q7 : cI S7 hr = cI S5 hr := sub_cI s7 (sub_A1 s5 (sub_A1 s b2)) (fun e => hne e.symm)
        have q5 : cI S5 hk = cI S' hk := sub_cI s5 (sub_A1 s a2) hne
        rw [q7]
        rcases (insA_get hp).mp hx2 with ⟨c, hx2⟩ | ⟨rfl, rfl⟩ | ⟨c, hx2⟩
        · have bb := hH _ x hx2
          have := h1 i x c hx2
          exact ⟨⟨heI_SI_k e7 (by omega) (by rw [q5]; exact this.1), bb.1.2⟩, heI_SI_k e5 (by omega) this.2, bb.2.2⟩
        · exact ⟨⟨heI_SI_s e7, hkey⟩, heI_SI_s e5, hrk⟩
        · have bb := hH _ x hx2
          have := h2 (i - 1) x (by omega) hx2
          rw [show i - 1 + 1 = i by omega] at this
          exact ⟨⟨heI_SI_k e7 (by omega) (by rw [q5]; exact this.1), bb.1.2⟩, heI_SI_k e5 (by omega) this.2, bb.2.2⟩
      unfold k_X1_hold_68
      rw [pk_sub (show 1 ≤ p + 1 by omega), show p + 1 - 1 = p by omega]
      refine pk_le (p + 1) 0 (fun z => absurd z (by omega)) (fun _ => ⟨fA', hr, (rr _).trans b1, xA (by omega), ?_⟩)
      rw [clp, e0.2]
      refine pk_le r (H.getD p (0, 0)).2 (fun z => stop (by omega)) (fun z => ⟨fA', hr, (rr _).trans b1, fA', hr, (rr _).trans b1, xA (by omega), xA (by omega), fun S11 e11 => ?_⟩)
      rw [nI_clamp (show p + 1 < 2 ^ 31 by omega), e0.2] at e11
      have s11 : cSub S' S11 (fun z => z = hr) := e11 ▸ sub_SI rfl
      have r11 : ∀ z, cr S11 z fd = cr S' z fd := fun z => sub_cr s11 fA' (fun e => fk1 (Or.inr e))
      have q11 : cI S11 hk = cI S' hk := sub_cI s11 (sub_A1 s a2) hne
      have yA : ∀ {j : Nat}, j < 20 → cX S11 hk 14 (nI j) := fun hj => cX_mk (sub_A1 s11 (sub_A1 s a2)) ((sub_cn s11 (sub_A1 s a2)).trans ((sub_cn s a2).trans a3)) (by decide) hj rfl
      have f11 := sub_A1 s11 fA'
      refine ⟨f11, hk, (r11 _).trans ((rr _).trans a1), f11, hk, (r11 _).trans ((rr _).trans a1), yA (by omega), yA (by omega), fun S14 e14 => ?_⟩
      rw [nI_clamp (show p + 1 < 2 ^ 31 by omega), q11, e0.1] at e14
      have s14 : cSub S11 S14 (fun z => z = hk) := e14 ▸ sub_SI rfl
      have q14 : cI S14 hr = cI S11 hr := sub_cI s14 (sub_A1 s11 (sub_A1 s b2)) (fun e => hne e.symm)
      rintro _ rfl
      rw [show nI (p + 1) + (-1) = nI p from by rw [show (-1 : Int32) = 0 - nI 1 from rfl]; have := pk_sub (a := p + 1) (b := 1) (by omega); rw [show p + 1 - 1 = p by omega] at this; rw [← this]; simp [Int32.sub_eq_add_neg]]
      refine ih (by omega) (by rw [← hps, psH, if_pos z]) S14 (sub_tr s (sub_tr (F := fun z => z = hk ∨ z = hr) (sub_wk s11 (fun _ _ z => Or.inr z)) s14 (fun _ _ z => Or.inl z)) (fun _ _ z => z)) (fun i x hi hx2 => ?_) (fun i x hi hx2 => ?_) P hP
      · have := h1 i x (by omega) hx2
        rw [q14]
        exact ⟨heI_SI_k e14 (by omega) (by rw [q11]; exact this.1), heI_SI_k e11 (by omega) this.2⟩
      · rw [q14]
        by_cases c : i = p
        · subst c
          rw [hx] at hx2
          obtain rfl := Option.some.inj hx2
          exact ⟨heI_SI_s e14, heI_SI_s e11⟩
        · have := h2 i x (by omega) hx2
          exact ⟨heI_SI_k e14 (by omega) (by rw [q11]; exact this.1), heI_SI_k e11 (by omega) this.2⟩
  exact key0 H.length (Nat.le_refl _) rfl S sub_rf (fun i x hi hx => ⟨(hH i x hx).1.1, (hH i x hx).2.1⟩) (fun i x hi hx => absurd (get_lt hx) (by omega))
/-- what the finder's hits may change -/
theorem q_hold {Q : cS → Prop} {key r mo : Nat} (fA : cA S fd 1) (fρ : ρ fd = 21) (hk1 : rwT S ρ fd 34 hk 20 28) (hr1 : rwT S ρ fd 35 hr 20 29) (g : fdH S fd hk hr H) (hmo : 1 ≤ mo ∧ mo ≤ 20) (hl : H.length ≤ mo) (hkey : key < 2 ^ 31) (hrk : r < 2 ^ 31) (h : ∀ T, fk S T ρ ρ [21, 28, 29] → (∀ q, cr T q fd = cr S q fd) → (∀ q, q ≠ 33 → ci T q fd = ci S q fd) → fdH T fd hk hr (hdL H mo (key, r)) → Q T) : k_X1_hold Q dp fd (nI key) (nI r) (nI mo) S := by
  obtain ⟨g1, g2, g3⟩ := g
  have a4 := hk1.2.2.2
  have b4 := hr1.2.2.2
  have fk1 : ¬ (fd = hk ∨ fd = hr) := fun e => e.elim (fun e => absurd e (cA_ne fA hk1.2.1 (by decide))) (fun e => absurd e (cA_ne fA hr1.2.1 (by decide)))
  unfold k_X1_hold
  rw [g1]
  refine ⟨fA, ?_⟩
  rintro _ rfl
  have full : mo ≤ H.length → k_X1_hold_23 Q dp fd (nI key) (nI r) S := by
    intro hm
    have eL : hdL H mo (key, r) = if r ≤ (H.getD (H.length - 1) (0, 0)).2 then H else inH H.dropLast (key, r) := by unfold hdL; rw [if_neg (by omega)]
    have hx := gH_get (show H.length - 1 < H.length by omega)
    have hxx := g3 _ _ hx
    unfold k_X1_hold_23
    rw [g1, pk_sub (show 1 ≤ H.length by omega)]
    refine ⟨fA, pk_lt H.length 1 (fun z => absurd z (by omega)) (fun _ => ⟨fA, hr, hr1.1, fA, cX_mk hr1.2.1 hr1.2.2.1 (by decide) (show H.length - 1 < 20 by omega) rfl, ?_⟩)⟩
    rw [nI_clamp (show H.length - 1 < 2 ^ 31 by omega), hxx.2.1]
    refine pk_lt (H.getD (H.length - 1) (0, 0)).2 r (fun z => ⟨fA, ?_⟩) (fun z => ?_)
    · rw [if_neg (by omega)] at eL
      rintro _ rfl
      have ln : H.dropLast.length = H.length - 1 := List.length_dropLast
      rw [← ln]
      refine q_hold68 fA hk1 hr1 (by rw [ln]; omega) (fun i x hi => ?_) hkey hrk (fun T s hT => h T ?_ (fun q => sub_cr s fA fk1) (fun q _ => sub_ci s fA fk1) ⟨?_, ?_, by rw [eL]; exact hT⟩)
      · have : H[i]? = some x := by
          have hi2 := get_lt hi
          rw [ln] at hi2
          rw [List.getElem?_dropLast, if_pos hi2] at hi
          exact hi
        exact g3 i x this
      · exact fk_of s (fun z _ w => by rcases w with w | w <;> rw [w]; · rw [a4]; decide
                                       · rw [b4]; decide) (by decide)
      · rw [sub_ci s fA fk1, g1, eL, inH_len, ln, show H.length - 1 + 1 = H.length by omega]
      · rw [eL, inH_len, ln]; omega
    · rw [if_pos z] at eL
      exact h S fk_rf (fun _ => rfl) (fun _ _ => rfl) ⟨by rw [eL]; exact g1, by rw [eL]; exact g2, by rw [eL]; exact g3⟩
  refine ⟨fA, pk_le mo H.length full (fun z => ⟨fA, pk_lt H.length 20 (fun z2 => ⟨fA, fA, fun S16 e16 => ?_⟩) (fun z2 => absurd z2 (by omega))⟩)⟩
  have eL : hdL H mo (key, r) = inH H (key, r) := by unfold hdL; rw [if_pos z]
  have s16 : cSub S S16 (fun z => z = fd) := e16 ▸ sub_Si rfl
  have nk : ¬ hk = fd := fun e => fk1 (Or.inl e.symm)
  have nr : ¬ hr = fd := fun e => fk1 (Or.inr e.symm)
  have r16 : ∀ q, cr S16 q fd = cr S q fd := fun q => by rw [e16]; rfl
  have k16 : rwT S16 ρ fd 34 hk 20 28 := ⟨(r16 _).trans hk1.1, sub_A1 s16 hk1.2.1, (sub_cn s16 hk1.2.1).trans hk1.2.2.1, a4⟩
  have h16 : rwT S16 ρ fd 35 hr 20 29 := ⟨(r16 _).trans hr1.1, sub_A1 s16 hr1.2.1, (sub_cn s16 hr1.2.1).trans hr1.2.2.1, b4⟩
  refine q_hold68 (sub_A1 s16 fA) k16 h16 z2 (fun i x hi => ?_) hkey hrk (fun T s hT => h T ?_ (fun q => ?_) (fun q hq => ?_) ⟨?_, ?_, by rw [eL]; exact hT⟩)
  · rw [sub_cI s16 hk1.2.1 nk, sub_cI s16 hr1.2.1 nr]; exact g3 i x hi
  · refine fk_of (F := fun z => z = fd ∨ z = hk ∨ z = hr) (sub_tr (sub_wk s16 (fun _ _ w => Or.inl w)) s (fun _ _ w => Or.inr w)) (fun z _ w => ?_) (by decide)
    rcases w with w | w | w
    · rw [w, fρ]; decide
    · rw [w, a4]; decide
    · rw [w, b4]; decide
  · rw [sub_cr s (sub_A1 s16 fA) fk1]; exact r16 q
  · rw [sub_ci s (sub_A1 s16 fA) fk1, e16]; exact mU_nq hq
  · rw [sub_ci s (sub_A1 s16 fA) fk1, eL, inH_len, hi_Si_s e16, nI_add]
  · rw [eL, inH_len]; omega
end HD
