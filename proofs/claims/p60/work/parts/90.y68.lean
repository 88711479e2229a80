/-! the class: how rare tokens are; what matches -/
theorem sumL_bd {f : Nat → Nat} {B : Nat} : ∀ {l : List Nat}, (∀ x, x ∈ l → f x ≤ B) → sumL f l ≤ B * l.length
  | [], _ => Nat.zero_le _
  | a :: l, h => by
    have h1 := h a List.mem_cons_self
    have h2 := sumL_bd (f := f) (B := B) (l := l) (fun x hx => h x (List.mem_cons_of_mem _ hx))
    show f a + sumL f l ≤ B * (l.length + 1)
    rw [Nat.mul_succ]; omega
/-- how many live documents there are -/
def allN (sg : Nat → List Dc) (lv : Nat → Nat → Bool) (ids : List Nat) : Nat := sumL (fun n => cntB (lv n) (sg n).length) ids
theorem smN_le {f : Nat → Nat} {B : Nat} (h : ∀ i, f i ≤ B) : ∀ n : Nat, smN f n ≤ B * n
  | 0 => Nat.zero_le _
  | n + 1 => by
    have := smN_le h n
    have := h n
    rw [smN, Nat.mul_succ]; omega
theorem rrN_le {sg : Nat → List Dc} {lv : Nat → Nat → Bool} {ids : List Nat} {d : Nd} (h : allN sg lv ids < 65535) (hd : (nT d).length ≤ 6) : rrN sg lv ids d ≤ 102 := by
  unfold rrN
  exact Nat.le_trans (smN_le (B := 17) (fun i => rarN_le h) _) (by omega)
section RR
variable {S T U : cS} {ρ : Nat → Nat} {M : List Nat} {dp made V rd w0 w1 wr mo fo ro pl ra gi q m : Nat} {so : Nat → Nat} {sd : Nat → List Nat} {sg : Nat → List Dc} {ids : List Nat} {lv : Nat → Nat → Bool} {mk fs rw : Nat → Nat} {nd : Nat → Nd}
theorem rSt_bd (g : rSt S ρ dp so sd sg made V ids lv rd w0 w1 wr mo fo ro pl ra gi mk fs rw q m nd) : allN sg lv ids < 2 ^ 30 ∧ ids.length < 8000 ∧ ∀ fl c, hvN sg lv ids fl c < 2 ^ 30 := by
  obtain ⟨gs, hid, gv, gr, gq⟩ := g
  have i8 : ids.length < 8000 := by
    obtain ⟨hl, mm, hs, g1, -⟩ := gv
    exact (vw_len g1).2
  refine ⟨?_, i8, fun fl c => ?_⟩
  · have : allN sg lv ids ≤ 100 * ids.length := sumL_bd (fun n hn => Nat.le_trans (cntB_le _ _) (gs n (hid n hn)).2.2.2.2.2.1)
    omega
  · have : hvN sg lv ids fl c ≤ 100 * ids.length := sumL_bd (fun n hn => cntB_le _ _)
    omega
theorem q_readRarities {Q : cS → Prop} (g : rSt S ρ dp so sd sg made V ids lv rd w0 w1 wr mo fo ro pl ra gi mk fs rw q m nd) (hq : qOk nd m) (hl : (lfI nd m).length ≤ 24) (h : ∀ T, fk S T ρ ρ [80, 24, 26] → (∀ i, i < (lfI nd m).length → cI T ra i = nI (rrN sg lv ids (lfD nd m i))) → (∀ i, (lfI nd m).length ≤ i → cI T ra i = cI S ra i) → Q T) : k_X7_readRarities Q dp rd q V S := by
  obtain ⟨bd1, bd2, bd3⟩ := rSt_bd g
  have gv0 := g.2.2.1
  have hall : allN sg lv ids = sumL (fun n => cntB (lv n) (sg n).length) ids := rfl
  unfold k_X7_readRarities
  refine ⟨(g_vA gv0).1, g_vlive gv0 ?_⟩
  rw [← hall]
  unfold k_X7_readRarities_8L
  refine lfp_cnt (lfI nd m).length (fun k y => ∃ S', fk S S' ρ ρ [80, 24, 26] ∧ (∀ i, i < k → cI S' ra i = nI (rrN sg lv ids (lfD nd m i))) ∧ (∀ i, k ≤ i → cI S' ra i = cI S ra i) ∧ y = (rd, q, V, nI (allN sg lv ids), nI k, S')) ?_ ⟨S, fk_rf, fun i hi => absurd hi (Nat.not_lt_zero i), fun _ _ => rfl, rfl⟩
  rintro P k _ hk ⟨S', f', hb, hbo, rfl⟩ ih
  show k_X7_readRarities_8 Q dp _ rd q V (nI (allN sg lv ids)) (nI k) S'
  have g' := rSt_fk f' (by decide) g
  obtain ⟨gs, hid, gv, gr, gq⟩ := id g'
  obtain ⟨ll, ls, lm, l1, l2, l3, l4, l5⟩ := gQ_leaf gq
  obtain ⟨ra1, ra2, ra3, ra4⟩ := gr.2.2.2.2.2.2.2.1
  unfold k_X7_readRarities_8
  refine ⟨gq.1, ll, l1, l2.1, q_lsize l2 ?_⟩
  rw [l3]
  refine pk_le (lfI nd m).length k (fun z => ?_) (fun z => ⟨gr.1, ra, ra1, ra2, ?_⟩)
  · obtain rfl : k = (lfI nd m).length := by omega
    exact h S' f' hb hbo
  rw [ra3]
  refine pk_le 24 k (fun z2 => absurd z2 (by omega)) (fun z2 => ?_)
  obtain ⟨p, hp, np⟩ := l5 k z
  obtain ⟨hf, ho⟩ := qOk_lf hq z
  have h6 : (nT (lfD nd m k)).length ≤ 6 := by
    rcases ho with w | w
    · exact w.2.2.1
    · rw [w.2.2.2.2.2]; decide
  have clk : (nI k).toNatClampNeg = k := nI_clamp (by omega)
  refine ⟨gq.1, ll, l1, l2.1, q_lget l2 hp ⟨np.1, gr.1, ra, ra1, cX_mk ra2 ra3 (by decide) z2 rfl, fun S8 e8 => ?_⟩⟩
  rw [clk] at e8
  have s8 : cSub S' S8 (fun a => a = ra) := e8 ▸ sub_SI rfl
  have f8 : fk S' S8 ρ ρ [80, 24, 26] := fk_up (fk_of s8 (M := [26]) (fun a _ w => by rw [w, ra4]; decide) (by decide)) (by decide)
  obtain ⟨F, hF⟩ : ∃ F : Nat → Nat, F = fun t => rarN (allN sg lv ids) (hvN sg lv ids (nF (lfD nd m k)) (tkC (lfD nd m k) t)) := ⟨_, rfl⟩
  have rrF : rrN sg lv ids (lfD nd m k) = smN F (nT (lfD nd m k)).length := by rw [hF]; rfl
  unfold k_X7_readRarities_55L
  refine lfp_cnt (nT (lfD nd m k)).length (fun t y => ∃ S2, fk S' S2 ρ ρ [80, 24, 26] ∧ (∀ i, i < k → cI S2 ra i = nI (rrN sg lv ids (lfD nd m i))) ∧ cI S2 ra k = nI (smN F t) ∧ (∀ i, k < i → cI S2 ra i = cI S ra i) ∧ y = (rd, q, V, nI (allN sg lv ids), nI k, p, nI t, S2)) ?_ ⟨S8, f8, fun i hi => heI_SI_k e8 (by omega) (hb i hi), heI_SI_s e8, fun i hi => heI_SI_k e8 (by omega) (hbo i (by omega)), rfl⟩
  rintro P2 t _ ht ⟨S2, f2, hb2, hk2, ho2, rfl⟩ ih2
  show k_X7_readRarities_55 Q dp _ _ rd q V (nI (allN sg lv ids)) (nI k) p (nI t) S2
  have g2 := rSt_fk f2 (by decide) g'
  have np2 := ndT_fr f2.1 (by decide) (fun _ _ e => e) np
  have gr2 := g2.2.2.2.1
  obtain ⟨rb1, rb2, rb3, rb4⟩ := gr2.2.2.2.2.2.2.2.1
  unfold k_X7_readRarities_55
  refine ⟨np2.1, q_tokenCount np2 (pk_le (nT (lfD nd m k)).length t (fun z3 => ?_) (fun z3 => ⟨gr2.1, ra, rb1, cX_mk rb2 rb3 (by decide) z2 rfl, np2.1, np2.1, q_tokenAt np2 z3 h6 ⟨gr2.1, ?_⟩⟩))⟩
  · obtain rfl : t = (nT (lfD nd m k)).length := by omega
    rintro _ rfl
    rw [nI_add]
    refine ih _ z ⟨S2, fk_s f' f2, fun i hi => ?_, fun i hi => ho2 i (by omega), rfl⟩
    by_cases c : i = k
    · subst c; rw [rrF]; exact hk2
    · exact hb2 i (by omega)
  · rw [np2.2.2.1.2.1]
    refine q_readCount g2 hf (fun S3 f3 => q_rarityOf bd1 (bd3 _ _) ?_)
    have gr3 := (rSt_fk f3 (by decide) g2).2.2.2.1
    obtain ⟨rc1, rc2, rc3, rc4⟩ := gr3.2.2.2.2.2.2.2.1
    refine ⟨cX_mk rc2 rc3 (by decide) z2 rfl, fun S15 e15 => ?_⟩
    rintro _ rfl
    rw [clk, hk2, nI_add] at e15
    rw [nI_add]
    have s15 : cSub S3 S15 (fun a => a = ra) := e15 ▸ sub_SI rfl
    have f15 : fk S3 S15 ρ ρ [80, 24, 26] := fk_up (fk_of s15 (M := [26]) (fun a _ w => by rw [w, ra4]; decide) (by decide)) (by decide)
    have same : cI S3 ra = cI S2 ra := sub_cI f3.1.1 rb2 (by rw [ra4]; decide)
    refine ih2 _ z3 ⟨S15, fk_s f2 (fk_s (fk_up f3 (by decide)) f15), fun i hi => heI_SI_k e15 (by omega) (by rw [same]; exact hb2 i hi), ?_, fun i hi => heI_SI_k e15 (by omega) (by rw [same]; exact ho2 i hi), rfl⟩
    rw [heI_SI_s e15, smN, hF]
end RR
