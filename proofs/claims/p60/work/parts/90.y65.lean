/-! the class: places of a segment's documents are read for a leaf of tokens -/
theorem mF_none {L : List Dc} {fl : Nat} {c : Int64} (h : pstOf (tlD L fl) c L.length = []) (j : Nat) : mF L fl c j = 0 := by
  have e := spR_mF (L := L) (fl := fl) (c := c) (R := fun _ => 0) (j := j)
  rw [h] at e
  replace e : 0 = 0 ||| mF L fl c j := e
  rw [Nat.zero_or] at e
  exact e.symm
/-- what a leaf of tokens has in a document -/
noncomputable def mkC (L : List Dc) (d : Nd) (j t : Nat) : Nat := mF L (nF d) (tkC d t) j
section RC
variable {S T U : cS} {ρ : Nat → Nat} {dp rd w0 w1 wr mo fo ro pl ra gi p A n : Nat} {mk fs rw : Nat → Nat} {d : Nd} {fl : Bool} {ds : List Nat} {L : List Dc}
theorem q_readCounted {Q : cS → Prop} {b1 b2 : Nat} (gr : rdr S ρ rd w0 w1 wr mo fo ro pl ra gi mk fs rw) (g : ndT S ρ 17 p d fl) (hd : tkOk d) (hf : nF d < 2) (gS : gSg S ρ dp A n ds L) (b1A : cA S b1 14) (b1n : cn S b1 = 100) (b1ρ : ρ b1 = 22) (b2A : cA S b2 14) (b2n : cn S b2 = 100) (b2ρ : ρ b2 = 23) (h : ∀ T, fF S T ρ (fun z => ρ z = 80 ∨ ρ z = 24 ∨ ρ z = 25 ∨ z = b1 ∨ z = b2) → (∀ j, j < L.length → cI T b1 j = nI (cpN d (mkC L d j)) ∧ cI T b2 j = nI (mkC L d j 0)) → Q T) : k_X7_readCounted Q dp rd p A b1 b2 S := by
  obtain ⟨k1, k2, k3, k4, k5, k6⟩ := id hd
  have hK : L.length ≤ 100 := gS.2.2.2.2.2.1
  have okL : ∀ d, d ∈ L → okD d := gS.2.2.2.2.1
  obtain ⟨F, hF⟩ : ∃ F : Nat → Prop, F = fun z => ρ z = 80 ∨ ρ z = 24 ∨ ρ z = 25 ∨ z = b1 ∨ z = b2 := ⟨_, rfl⟩
  rw [← hF] at h
  have Fin : ∀ a, a ∈ cL S → F a → ρ a ∈ [80, 22, 23, 24, 25] := fun a _ z => by
    rw [hF] at z
    rcases z with z | z | z | z | z
    · rw [z]; decide
    · rw [z]; decide
    · rw [z]; decide
    · rw [z, b1ρ]; decide
    · rw [z, b2ρ]; decide
  have st : ∀ {S' : cS}, fF S S' ρ F → rdr S' ρ rd w0 w1 wr mo fo ro pl ra gi mk fs rw ∧ ndT S' ρ 17 p d fl ∧ gSg S' ρ dp A n ds L := fun f => by
    have fk' := fF_fk f Fin
    exact ⟨rdr_s fk'.1 (by decide) (by decide) gr, ndT_fr fk'.1 (by decide) (fun _ _ e => e) g, gSg_fr fk' (by decide) gS⟩
  have b1' : ∀ {S' : cS}, fF S S' ρ F → cA S' b1 14 ∧ cn S' b1 = 100 ∧ cA S' b2 14 ∧ cn S' b2 = 100 := fun f => ⟨sub_A1 f.1 b1A, (sub_cn f.1 b1A).trans b1n, sub_A1 f.1 b2A, (sub_cn f.1 b2A).trans b2n⟩
  have F80 : ∀ a, ρ a = 80 → F a := fun a e => by rw [hF]; exact Or.inl e
  have F24 : ∀ a, ρ a = 24 → F a := fun a e => by rw [hF]; exact Or.inr (Or.inl e)
  have F25 : ∀ a, ρ a = 25 → F a := fun a e => by rw [hF]; exact Or.inr (Or.inr (Or.inl e))
  have Fb1 : F b1 := by rw [hF]; exact Or.inr (Or.inr (Or.inr (Or.inl rfl)))
  have Fb2 : F b2 := by rw [hF]; exact Or.inr (Or.inr (Or.inr (Or.inr rfl)))
  -- rows hold what is asked
  have second : ∀ {S' : cS}, fF S S' ρ F → (∀ t, t < (nT d).length → ∀ j, j < 100 → cI S' (rw t) j = nI (mkC L d j t)) → k_X7_readCounted_72 Q dp rd p A b1 b2 S' := by
    intro S0 f0 r0
    unfold k_X7_readCounted_72 k_X7_readCounted_75L
    refine lfp_cnt L.length (fun j y => ∃ S', fF S S' ρ F ∧ (∀ t, t < (nT d).length → ∀ j, j < 100 → cI S' (rw t) j = nI (mkC L d j t)) ∧ (∀ i, i < j → cI S' b1 i = nI (cpN d (mkC L d i)) ∧ cI S' b2 i = nI (mkC L d i 0)) ∧ y = (rd, p, A, b1, b2, nI j, S')) ?_ ⟨S0, f0, r0, fun i hi => absurd hi (Nat.not_lt_zero i), rfl⟩
    rintro P j _ hj ⟨S', f', hr, hb, rfl⟩ ih
    show k_X7_readCounted_75 Q dp _ rd p A b1 b2 (nI j) S'
    obtain ⟨gr', g', gS'⟩ := st f'
    unfold k_X7_readCounted_75
    refine ⟨gS'.1.1, q_sgSize gS'.1 (pk_le L.length j (fun z => ?_) (fun z => pk_le 100 j (fun z2 => absurd z2 (by omega)) (fun z2 => ?_)))⟩
    · obtain rfl : j = L.length := by omega
      exact h S' f' hb
    unfold k_X7_readCounted_94L
    refine lfp_cnt (nT d).length (fun t y => ∃ S'', cSub S' S'' (fun z => z = pl) ∧ (∀ i, i < t → cI S'' pl i = nI (mkC L d j i)) ∧ y = (rd, p, A, b1, b2, nI j, nI t, S'')) ?_ ⟨S', sub_rf, fun i hi => absurd hi (Nat.not_lt_zero i), rfl⟩
    rintro P2 t _ ht ⟨S2, s2, hp, rfl⟩ ih2
    show k_X7_readCounted_94 Q dp _ _ rd p A b1 b2 (nI j) (nI t) S2
    have pρ : ρ pl = 25 := gr'.2.2.2.2.2.2.1.2.2.2
    have f2 : fF S S2 ρ F := fF_tr f' (fF_sub s2 (fun a _ z => by rw [z, pρ]; decide)) (fun a _ z => by rw [z]; exact F25 _ pρ)
    obtain ⟨gr2, g2, gS2⟩ := st f2
    obtain ⟨x1, x2, x3, x4⟩ := b1' f2
    have ne : ∀ {a τ : Nat}, ρ a = τ → τ ≠ 25 → ¬ a = pl := fun e hn w => hn (by rw [← e, w, pρ])
    have rw2 : ∀ i, i < (nT d).length → cI S2 (rw i) j = nI (mkC L d j i) := fun i hi => by
      have m := gr'.2.2.2.2.2.1.2.2.2.2.1 i (by omega)
      rw [sub_cI s2 m.2.1 (ne m.2.2.2 (by decide))]; exact hr i hi j z2
    obtain ⟨r1, ⟨m1, m2, m3, m4, m5, m6⟩, ⟨l1, l2, l3, l4⟩⟩ : cA S2 rd 7 ∧ mtT S2 ρ rd 227 ro rw 6 24 ∧ rwT S2 ρ rd 228 pl 6 25 := ⟨gr2.1, gr2.2.2.2.2.2.1, gr2.2.2.2.2.2.2.1⟩
    unfold k_X7_readCounted_94
    refine ⟨g2.1, q_tokenCount g2 (pk_le (nT d).length t (fun z3 => ?_) (fun z3 => ⟨r1, ro, m1, m2, ?_⟩))⟩
    · obtain rfl : t = (nT d).length := by omega
      unfold k_X7_readCounted_136
      refine ⟨r1, pl, l1, cX_mk l2 l3 (by decide) (show 0 < 6 by decide) rfl, cX_mk x3 x4 (by decide) z2 rfl, fun S5 e5 => ?_⟩
      rw [show (nI 0).toNatClampNeg = 0 from nI_clamp (by decide), nI_clamp (show j < 2 ^ 31 by omega), hp 0 (by omega)] at e5
      have s5 : cSub S2 S5 (fun z => z = b2) := e5 ▸ sub_SI rfl
      have f5 : fF S S5 ρ F := fF_tr f2 (fF_sub s5 (fun a _ z => by rw [z, b2ρ]; decide)) (fun a _ z => by rw [z]; exact Fb2)
      obtain ⟨gr5, g5, gS5⟩ := st f5
      have l5 := gr5.2.2.2.2.2.2.1
      have plb2 : ¬ pl = b2 := fun e => absurd (show (25 : Nat) = 23 by rw [← pρ, e, b2ρ]) (by decide)
      refine ⟨gr5.1, pl, l5.1, g5.1, q_countedPlaces g5 hd l5.2.1 l5.2.2.1 (mk := mkC L d j) (fun t ht => ⟨?_, ?_⟩) ⟨cX_mk (b1' f5).1 (b1' f5).2.1 (by decide) z2 rfl, fun S8 e8 => ?_⟩⟩
      · rw [sub_cI s5 l2 plb2]; exact hp t ht
      · exact Nat.lt_trans (mF_lt okL) (by decide)
      rintro _ rfl
      rw [nI_clamp (show j < 2 ^ 31 by omega)] at e8
      rw [nI_add]
      have s8 : cSub S5 S8 (fun z => z = b1) := e8 ▸ sub_SI rfl
      have f8 : fF S S8 ρ F := fF_tr f5 (fF_sub s8 (fun a _ z => by rw [z, b1ρ]; decide)) (fun a _ z => by rw [z]; exact Fb1)
      have b12 : ¬ b2 = b1 := fun e => absurd (show (23 : Nat) = 22 by rw [← b2ρ, e, b1ρ]) (by decide)
      refine ih _ z ⟨S8, f8, fun t ht i hi => ?_, fun i hi => ?_, rfl⟩
      · have m := m5 t (by omega)
        have n1 : ¬ rw t = b1 := fun e => absurd (show (24 : Nat) = 22 by rw [← m.2.2.2, e, b1ρ]) (by decide)
        have n2 : ¬ rw t = b2 := fun e => absurd (show (24 : Nat) = 23 by rw [← m.2.2.2, e, b2ρ]) (by decide)
        have m' := gr'.2.2.2.2.2.1.2.2.2.2.1 t (by omega)
        rw [sub_cI s8 (sub_A1 s5 m.2.1) n1, sub_cI s5 m.2.1 n2, sub_cI s2 m'.2.1 (ne m'.2.2.2 (by decide))]
        exact hr t ht i hi
      · have e1 : cI S8 b2 = cI S5 b2 := sub_cI s8 (b1' f5).2.2.1 b12
        rw [e1]
        have q1 : ∀ i, i < j → cI S2 b1 i = nI (cpN d (mkC L d i)) ∧ cI S2 b2 i = nI (mkC L d i 0) := fun i hi => by
          rw [sub_cI s2 (b1' f').1 (ne b1ρ (by decide)), sub_cI s2 (b1' f').2.2.1 (ne b2ρ (by decide))]; exact hb i hi
        by_cases c : i = j
        · subst c
          exact ⟨heI_SI_s e8, heI_SI_s e5⟩
        · have := q1 i (by omega)
          exact ⟨heI_SI_k e8 c (by rw [sub_cI s5 x1 (fun e => b12 e.symm)]; exact this.1), heI_SI_k e5 c this.2⟩
    · have ht6 : t < 6 := by omega
      rw [m3]
      obtain ⟨a1, a2, a3, a4⟩ := m5 t ht6
      refine pk_le 6 t (fun z4 => absurd z4 (by omega)) (fun _ => ⟨r1, pl, l1, r1, ro, m1, cX_mk m2 m3 (by decide) ht6 rfl, rw t, ?_, cX_mk a2 a3 (by decide) z2 rfl, cX_mk l2 l3 (by decide) ht6 rfl, fun S14 e14 => ?_⟩)
      · rw [nI_clamp (show t < 2 ^ 31 by omega)]; exact a1
      rintro _ rfl
      rw [nI_clamp (show t < 2 ^ 31 by omega), nI_clamp (show j < 2 ^ 31 by omega), rw2 t z3] at e14
      rw [nI_add]
      refine ih2 _ z3 ⟨S14, sub_tr s2 (e14 ▸ sub_SI rfl) (fun _ _ z => z), fun i hi => ?_, rfl⟩
      by_cases c : i = t
      · subst c; exact heI_SI_s e14
      · exact heI_SI_k e14 c (hp i (by omega))
  unfold k_X7_readCounted k_X7_readCounted_3L
  refine lfp_cnt (nT d).length (fun t y => ∃ S', fF S S' ρ F ∧ (∀ i, i < t → ∀ j, j < 100 → cI S' (rw i) j = nI (mkC L d j i)) ∧ y = (rd, p, A, b1, b2, nI t, S')) ?_ ⟨S, fF_rf, fun i hi => absurd hi (Nat.not_lt_zero i), rfl⟩
  rintro P t _ ht ⟨S', f', hr, rfl⟩ ih
  show k_X7_readCounted_3 Q dp _ rd p A b1 b2 (nI t) S'
  obtain ⟨gr', g', gS'⟩ := st f'
  obtain ⟨r1, ⟨m1, m2, m3, m4, m5, m6⟩⟩ : cA S' rd 7 ∧ mtT S' ρ rd 227 ro rw 6 24 := ⟨gr'.1, gr'.2.2.2.2.2.1⟩
  unfold k_X7_readCounted_3
  refine ⟨g'.1, q_tokenCount g' (pk_le (nT d).length t (fun z => ?_) (fun z => ⟨r1, ro, m1, m2, ?_⟩))⟩
  · obtain rfl : t = (nT d).length := by omega
    exact second f' hr
  have ht6 : t < 6 := by omega
  obtain ⟨a1, a2, a3, a4⟩ := m5 t ht6
  have clt : (nI t).toNatClampNeg = t := nI_clamp (by omega)
  rw [m3]
  refine pk_le 6 t (fun z4 => absurd z4 (by omega)) (fun _ => ⟨r1, ro, m1, cX_mk m2 m3 (by decide) ht6 rfl, rw t, by rw [clt]; exact a1, q_fill a2 a3 (by decide) (fun S1 s1 h1 => ?_)⟩)
  have f1 : fF S S1 ρ F := fF_tr f' (fF_sub s1 (fun a _ z => by rw [z, a4]; decide)) (fun a _ z => by rw [z]; exact F24 _ a4)
  obtain ⟨gr1, g1, gS1⟩ := st f1
  have oth : ∀ i, i < t → ¬ rw i = rw t := fun i hi e => by have := m6 i t (by omega) ht6 e; omega
  have fin : ∀ {S2 : cS}, fF S S2 ρ F → (∀ i, i ≤ t → ∀ j, j < 100 → cI S2 (rw i) j = nI (mkC L d j i)) → k_X7_readCounted_66 Q dp (fun b0 b1 b2 b3 b4 b5 S => P (b0, b1, b2, b3, b4, b5, S)) rd p A b1 b2 (nI t) S2 := by
    intro S2 f2 h2
    unfold k_X7_readCounted_66
    rintro _ rfl
    rw [nI_add]
    exact ih _ z ⟨S2, f2, fun i hi => h2 i (by omega), rfl⟩
  refine ⟨g1.1, g1.1, q_tokenAt g1 z k3 ⟨gS1.1.1, ?_⟩⟩
  rw [g1.2.2.1.2.1]
  refine q_postingsOf gS1 hf (fun e => ⟨fun _ => ?_, fun b hb => absurd hb (by simp)⟩) (fun q q1 q2 q3 q4 => ⟨fun w => absurd w (by simp), fun b hb => ?_⟩)
  · refine fin f1 (fun i hi j hj => ?_)
    by_cases c : i = t
    · subst c
      rw [h1 j hj]
      unfold mkC
      rw [mF_none e]
    · rw [sub_cI s1 (m5 i (by omega)).2.1 (oth i (by omega))]; exact hr i (by omega) j hj
  · obtain rfl := Option.some.inj hb
    obtain ⟨u1, u2, u3, u4, u5, u6⟩ := gr1.2.2.2.2.2.1
    obtain ⟨v1, v2, v3, v4⟩ := u5 t ht6
    refine ⟨gr1.1, ro, u1, cX_mk u2 u3 (by decide) ht6 rfl, rw t, by rw [clt]; exact v1, q1.1, q_spreadS (R := fun _ => 0) hK q1 q2 q3 v2 v3 h1 (fun S2 s2 h2 => ?_)⟩
    have f2 : fF S S2 ρ F := fF_tr f1 (fF_Sp s2 (by rw [a4]; decide)) (fun a _ z => by
      rcases z with z | z
      · rw [z]; exact F80 _ q4
      · rw [z]; exact F24 _ a4)
    refine fin f2 (fun i hi j hj => ?_)
    by_cases c : i = t
    · subst c
      rw [h2 j hj, Nat.zero_or]; rfl
    · have m := m5 i (by omega)
      have nq : ¬ (rw i = q ∨ rw i = rw t) := fun w => w.elim (fun w => absurd (show (24 : Nat) = 80 by rw [← m.2.2.2, w, q4]) (by decide)) (oth i (by omega))
      rw [sub_cI s2.1 (sub_A1 s1 m.2.1) nq, sub_cI s1 m.2.1 (oth i (by omega))]; exact hr i (by omega) j hj
end RC
