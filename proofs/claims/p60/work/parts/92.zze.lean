/-! holds: the start -/
/-- rows made -/
def mkR (S0 : cS) (i : Nat) (ar : Nat → Nat) (S : cS) : Prop := cSub S0 S (fun _ => False) ∧ (∀ j, j < i → ar j ∉ cL S0 ∧ cA S (ar j) (lK j) ∧ cn S (ar j) = lLn j ∧ cI S (ar j) = (fun _ => 0) ∧ cJ S (ar j) = (fun _ => 0)) ∧ ∀ j j', j < i → j' < i → ar j = ar j' → j = j'
section LST
variable {S0 S T U V : cS} {ρ0 ρ ρ' : Nat → Nat} {ar : Nat → Nat} {dp x i q mc ms cd dd : Nat}
theorem mkR_0 : mkR S 0 ar S := ⟨sub_rf, fun j h => absurd h (Nat.not_lt_zero j), fun j j' h => absurd h (Nat.not_lt_zero j)⟩
theorem mkR_s (h : mkR S0 i ar S) (hq : q ∉ cL S) (e : T = cNewA S q (lK i) (lLn i)) : mkR S0 (i + 1) (upR ar i q) T := by
  obtain ⟨h1, h2, h3⟩ := h
  have sT : cSub S T (fun _ => False) := by rw [e]; exact sub_A hq
  have ne : ∀ j, j < i → ar j ≠ q := fun j hj z => hq (z ▸ (h2 j hj).2.1.1)
  refine ⟨sub_tr h1 sT (fun _ _ z => z), fun j hj => ?_, fun j j' hj hj' => ?_⟩
  · rcases Nat.lt_or_ge j i with c | c
    · rw [upR_n (by omega)]
      obtain ⟨a, b, c1, d, e1⟩ := h2 j c
      exact ⟨a, sub_A1 sT b, (sub_cn sT b).trans c1, (sub_cI sT b (fun z => z)).trans d, (sub_cJ sT b (fun z => z)).trans e1⟩
    · obtain rfl : j = i := by omega
      rw [upR_s]
      exact ⟨fun z => hq (h1 q z).1.1, ⟨hm_Ao e, hk_Ao e⟩, hn_Ao e, hI_Ao e, hJ_Ao e⟩
  · rcases Nat.lt_or_ge j i with c | c <;> rcases Nat.lt_or_ge j' i with c' | c'
    · rw [upR_n (by omega), upR_n (by omega)]
      exact h3 j j' c c'
    · obtain rfl : j' = i := by omega
      rw [upR_n (by omega), upR_s]
      exact fun z => absurd z (ne j c)
    · obtain rfl : j = i := by omega
      rw [upR_n (show j' ≠ j by omega), upR_s]
      exact fun z => absurd z.symm (ne j' c')
    · intro _; omega
def sl0 : Nat → List Nat := fun _ => []
def ix0 : Vw := ([], fun _ _ => false)
/-- what the constructor leaves -/
def MD (S : cS) (ρ : Nat → Nat) (dp x : Nat) : Prop := (∃ so sd, gIx S ρ dp x so sd (sgR sl0) 0 [] ix0 none none none [] 0 0 0 none false) ∧ gRd S ρ x 3 1 ∧ gFn S ρ x [] 0 0 [] 0 (mbQ qs6 (sgR sl0)) (sgR sl0)
theorem ixM_0 : ixM 0 ix0 none none none [] := by
  refine ⟨?_, ?_, ?_, ?_, ?_⟩
  · intro n hn; exact absurd hn List.not_mem_nil
  · intro s hs; exact absurd hs (by simp)
  · intro s hs; exact absurd hs (by simp)
  · intro s hs; exact absurd hs (by simp)
  · intro s hs; exact absurd hs List.not_mem_nil
theorem pI_0 : pI 0 WL6 l6 false (sgR sl0) 0 [] ix0 none none none [] (slO none none) 0 none false := by
  refine ⟨⟨⟨List.nodup_nil, fun key n j d n' j' d' hn => absurd hn List.not_mem_nil⟩, fun s c h => (nomatch h), fun s h => (nomatch h), fun s h => (nomatch h), fun s hs => absurd hs List.not_mem_nil⟩, ⟨fun a b d d' h => (nomatch h), fun d hd => absurd hd List.not_mem_nil⟩, fun s c h => (nomatch h), ⟨List.Perm.nil, List.nodup_nil, fun s hs => absurd hs List.not_mem_nil, Nat.le_refl _⟩, fun h => (nomatch h), fun j h => (nomatch h), fun _ => ⟨rfl, rfl⟩, ⟨fun n hn => absurd hn (Nat.not_lt_zero n), fun d hd => absurd hd List.not_mem_nil⟩, fun a ha => ?_, by decide, Nat.le_refl _⟩
  obtain rfl : a = 0 := by have : a < 1 := ha; omega
  exact ⟨tcW 2, by decide +kernel, show G6 0 = lN (tcW 2) from upR_s⟩
theorem pF_0 : pF 0 0 qs6 3 1 [] 0 [] := ⟨by decide, ⟨[], List.Perm.nil, rfl, List.Pairwise.nil, fun x hx => absurd hx List.not_mem_nil, List.nodup_nil, by decide⟩, fun x hx => absurd hx List.not_mem_nil, by decide⟩
theorem lOf_0 {c : Nat} {sl : Nat → List Nat} {v : Vw} (h : (cA S c 14 ∧ cn S c = 64)) (z : cI S c 0 = nI 0) : lOf S c 0 sl 0 v := ⟨h, ⟨z, by decide⟩, fun h => absurd h (Nat.lt_irrefl 0)⟩
theorem I6_0 (h : lRow S ar) (hz : ∀ i, i < 15 → ∀ p, cI S (ar i) p = nI 0) (hm : ∀ p, p ≠ 5 → cI S (ar 15) p = nI 0) (h5 : cI S (ar 15) 5 = -1) : I6 S ar 0 0 sl0 [] ix0 none none none none none 0 0 0 none false [] 0 0 [] := by
  have k : ∀ i, i < 16 → cA S (ar i) (lK i) ∧ cn S (ar i) = lLn i := h.1
  refine ⟨h, ⟨⟨k 0 (by decide), k 2 (by decide), k 3 (by decide)⟩, ⟨by decide, by decide⟩, fun n hn => absurd hn (Nat.not_lt_zero n)⟩, ⟨⟨hm 0 (by decide), by decide⟩, ⟨hm 2 (by decide), by decide⟩, fun n hn => absurd hn (Nat.not_lt_zero n), fun a ha => absurd ha List.not_mem_nil⟩, ⟨hm 1 (by decide), by decide, fun i a hi => (nomatch hi)⟩, ⟨⟨hm 3 (by decide), by decide⟩, fun k n hn => (nomatch hn), fun n hn => absurd hn List.not_mem_nil⟩, ⟨hm 9 (by decide), fun s k hs => (nomatch hs)⟩, ⟨lOf_0 (k 7 (by decide)) (hz 7 (by decide) 0), lOf_0 (k 8 (by decide)) (hz 8 (by decide) 0), lOf_0 (k 9 (by decide)) (hz 9 (by decide) 0), lOf_0 (k 10 (by decide)) (hz 10 (by decide) 0)⟩, ⟨fun n hn => absurd hn List.not_mem_nil, fun p hp => (nomatch hp)⟩, ⟨hm 4 (by decide), fun _ => h5, hm 6 (by decide), hm 7 (by decide), hm 8 (by decide)⟩, ⟨⟨hm 14 (by decide), by decide, fun i x hi => (nomatch hi)⟩, hm 15 (by decide), hm 16 (by decide), ⟨hm 13 (by decide), by decide, fun i y hi => (nomatch hi)⟩⟩⟩
theorem cIn_0 : cIn none = -1 := rfl
/-- all is ready -/
theorem R6_0 (hM : MD S0 ρ0 dp x) (hx : cA S0 x 11) (hr : ρ0 x = 1) (hR : ∀ i, i < 16 → cA S0 (ar i) (lK i) ∧ cn S0 (ar i) = lLn i ∧ cI S0 (ar i) = (fun _ => 0)) (hd : ∀ i j, i < 16 → j < 16 → ar i = ar j → i = j) (ht : ∀ i, i < 16 → ρ0 (ar i) = 90) (h : RY S0 ρ0 dp x 1 A6 1 F6 G6 0 nd0 qs6 T []) (e : U = cSI T (ar 15) 5 (-1)) (hc : cd ≤ 10000) (hdd : dd ≤ 100000) : R6 0 U dp x ar cd dd := by
  obtain ⟨ρ, P, c0, c1, n0, P0, n1, P1, ⟨a1, a2, a3, a4⟩, -, g, gp, gq⟩ := h
  obtain ⟨⟨so, sd, m1⟩, m2, m3⟩ := hM
  have n90 : 90 ∉ MR := by decide
  have cC : C6 T ρ dp x 0 sl0 [] ix0 none none none [] 0 0 0 none false [] 0 0 [] 0 := ⟨⟨so, sd, gIx_fk (fr_fk a1 (by decide)) (by decide) ixM_0 a4 (fun q hq => a2 q (fun z => by subst z; revert hq; decide)) (fun q _ => a3 q) m1⟩, ixM_0, ⟨nd0, gp⟩, gq, gRd_f a1 (by decide) (a2 _ (by decide)) m2, gFn_f a1 (by decide) (a2 _ (by decide)) (a2 _ (by decide)) m3⟩
  have cLL : cL6 false T ρ x := ⟨P, c0, c1, n0, P0, n1, P1, g⟩
  have tT : ∀ i, i < 16 → ρ (ar i) = 90 := fun i hi => (a1.2 _ (hR i hi).1.1 (by rw [ht i hi]; exact n90)).trans (ht i hi)
  have s1 : cSub T U (fun a => a = ar 15) := by rw [e]; exact sub_SI rfl
  have fU : fr T U ρ ρ [90] := fr_sub s1 (fun a z => by rw [z]; exact tT 15 (by decide))
  have rU : ∀ i, i < 16 → cA T (ar i) (lK i) ∧ cn T (ar i) = lLn i ∧ cI T (ar i) = (fun _ => 0) := fun i hi => by
    have hn : ρ0 (ar i) ∉ MR := by rw [ht i hi]; exact n90
    exact ⟨sub_A1 a1.1 (hR i hi).1, (sub_cn a1.1 (hR i hi).1).trans (hR i hi).2.1, (sub_cI a1.1 (hR i hi).1 hn).trans (hR i hi).2.2⟩
  refine ⟨ρ, false, 0, 0, sl0, [], ix0, none, none, none, [], none, none, 0, 0, 0, none, false, [], 0, 0, [], 0, [], cL6_fr fU (by decide) g.1 g.2.1 cLL, C6_fr fU (by decide) cC, I6_0 ⟨fun i hi => ⟨sub_A1 s1 (rU i hi).1, (sub_cn s1 (rU i hi).1).trans (rU i hi).2.1⟩, hd⟩ (fun i hi p => ?_) (fun p hp => ?_) (heI_SI_s e), tT, pI_0, pF_0, ?_, ?_⟩
  · rw [sub_cI s1 (rU i (by omega)).1 (fun z => absurd (hd i 15 (by omega) (by decide) z) (by omega)), (rU i (by omega)).2.2]
    rfl
  · exact heI_SI_k e hp (by rw [(rU 15 (by decide)).2.2]; rfl)
  · show cd + 0 ≤ 10000
    exact hc
  · show dd + 0 ≤ 100000
    exact hdd
theorem q_holds {Q : Int32 → cS → Prop} {L : Nat} (hQ : ∀ T, Q (bI true) T) : ks_L_holds Q dp 500000 5000000 L S := by
  unfold ks_L_holds
  refine ⟨⟨by decide, by decide⟩, fun q1 hq1 S2 e2 => ⟨107, 6671, by decide, by decide, ?_⟩⟩
  refine g_made (ρ := fun _ => 1) (so := fun _ => 0) (sd := fun _ => []) (sg := sgR sl0) (lv := fun _ _ => false) (nd := nd0) (mb := mbQ qs6 (sgR sl0)) (P := fun _ => 0) (P0 := fun _ => 0) (P1 := fun _ => 0) ⟨hm_No e2, hk_No e2⟩ rfl (by decide) (by decide) (fun S5 ρ gL gI gP gQ gR gF => ?_)
  have r0 : mkR S5 0 (fun _ => q1) S5 := mkR_0
  refine ⟨64, rfl, by decide, by decide, by decide, fun p0 hp0 V0 eV0 => ?_⟩
  have r1 := mkR_s r0 hp0 eV0
  refine ⟨12, rfl, by decide, by decide, by decide, fun p1 hp1 V1 eV1 => ?_⟩
  have r2 := mkR_s r1 hp1 eV1
  refine ⟨30, rfl, by decide, by decide, by decide, fun p2 hp2 V2 eV2 => ?_⟩
  have r3 := mkR_s r2 hp2 eV2
  refine ⟨30, rfl, by decide, by decide, by decide, fun p3 hp3 V3 eV3 => ?_⟩
  have r4 := mkR_s r3 hp3 eV3
  refine ⟨30, rfl, by decide, by decide, by decide, fun p4 hp4 V4 eV4 => ?_⟩
  have r5 := mkR_s r4 hp4 eV4
  refine ⟨30, rfl, by decide, by decide, by decide, fun p5 hp5 V5 eV5 => ?_⟩
  have r6 := mkR_s r5 hp5 eV5
  refine ⟨30, rfl, by decide, by decide, by decide, fun p6 hp6 V6 eV6 => ?_⟩
  have r7 := mkR_s r6 hp6 eV6
  refine ⟨64, rfl, by decide, by decide, by decide, fun p7 hp7 V7 eV7 => ?_⟩
  have r8 := mkR_s r7 hp7 eV7
  refine ⟨64, rfl, by decide, by decide, by decide, fun p8 hp8 V8 eV8 => ?_⟩
  have r9 := mkR_s r8 hp8 eV8
  refine ⟨64, rfl, by decide, by decide, by decide, fun p9 hp9 V9 eV9 => ?_⟩
  have r10 := mkR_s r9 hp9 eV9
  refine ⟨64, rfl, by decide, by decide, by decide, fun p10 hp10 V10 eV10 => ?_⟩
  have r11 := mkR_s r10 hp10 eV10
  refine ⟨8, rfl, by decide, by decide, by decide, fun p11 hp11 V11 eV11 => ?_⟩
  have r12 := mkR_s r11 hp11 eV11
  refine ⟨40, rfl, by decide, by decide, by decide, fun p12 hp12 V12 eV12 => ?_⟩
  have r13 := mkR_s r12 hp12 eV12
  refine ⟨32, rfl, by decide, by decide, by decide, fun p13 hp13 V13 eV13 => ?_⟩
  have r14 := mkR_s r13 hp13 eV13
  refine ⟨30, rfl, by decide, by decide, by decide, fun p14 hp14 V14 eV14 => ?_⟩
  have r15 := mkR_s r14 hp14 eV14
  refine ⟨17, rfl, by decide, by decide, by decide, fun p15 hp15 V15 eV15 => ?_⟩
  have r16 := mkR_s r15 hp15 eV15
  refine ⟨3300, 33000, by decide, by decide, ?_⟩
  obtain ⟨z1, z2, z3⟩ := r16
  have f0 : fr S5 V15 ρ (rtg S5 (fun a => a) ρ 90) [] := ⟨sub_wk z1 (fun _ _ z => z.elim), fun a ha _ => if_pos ha⟩
  have gx := gL.1
  have gr := gL.2.1
  have xr : ∀ q, cr V15 q q1 = cr S5 q q1 := fun q => fr_cr f0 gx List.not_mem_nil
  have xi : ∀ q, ci V15 q q1 = ci S5 q q1 := fun q => fr_ci f0 gx List.not_mem_nil
  have xt : rtg S5 (fun a => a) ρ 90 q1 = 1 := (if_pos gx.1).trans gr
  have hM : MD V15 (rtg S5 (fun a => a) ρ 90) dp q1 := ⟨⟨_, _, gIx_fk (fr_fk f0 (by decide)) (by decide) ixM_0 xt (fun q _ => xr q) (fun q _ => xi q) gI⟩, gRd_f f0 (by decide) (xr _) gR, gFn_f f0 (by decide) (xr _) (xr _) gF⟩
  have hY : RY V15 (rtg S5 (fun a => a) ρ 90) dp q1 0 (fun _ => 0) 0 (fun _ => 0) (fun _ => 0) 0 nd0 (qs6.take 0) V15 [] := ⟨_, _, _, _, _, _, _, _, ⟨fr_rf, fun _ _ => rfl, fun _ => rfl, xt⟩, pdL_nil, gLD_f f0 (by decide) xt (fun q _ => xr q) gL, gPr_f f0 (by decide) (by decide) (by decide) (xr _) gP, gQl_f f0 (by decide) (by decide) (by decide) (xr _) gQ⟩
  refine rd_all hY (by decide) (by decide) (fun T hT => ?_)
  have tg : ∀ i, i < 16 → rtg S5 (fun a => a) ρ 90 (_ : Nat) = 90 := fun i hi => if_neg (z2 i hi).1
  have hT15 : cA T p15 14 ∧ cn T p15 = 17 := by
    obtain ⟨ρ', P, c0, c1, n0, P0, n1, P1, ⟨a1, -⟩, -⟩ := hT
    exact ⟨sub_A1 a1.1 (z2 15 (by decide)).2.1, (sub_cn a1.1 (z2 15 (by decide)).2.1).trans (z2 15 (by decide)).2.2.1⟩
  refine ⟨cX_mk hT15.1 hT15.2 (by decide) (show 5 < 17 by decide) rfl, fun U eU => ?_⟩
  exact q_116 (R6_0 hM (sub_A1 z1 gx) xt (fun i hi => ⟨(z2 i hi).2.1, (z2 i hi).2.2.1, (z2 i hi).2.2.2.1⟩) z3 tg hT eU (by decide) (by decide)) hQ
end LST
