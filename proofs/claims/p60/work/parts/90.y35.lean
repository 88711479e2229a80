/-! the class: delete and add from outside; writes, going down -/
def gSn (S : cS) (ρ : Nat → Nat) (dp x : Nat) (l : List Nat) : Prop := ∃ s m, cr S 360 x = some s ∧ lsT S dp s 10 l m ∧ (∀ z, lsF S dp s z → ρ z = 14) ∧ (m = 0 ∨ m = 10)
theorem gSn_fr {S T : cS} {ρ ρ' : Nat → Nat} {M : List Nat} {dp x : Nat} {l : List Nat} (h : fr S T ρ ρ' M) (hm : 14 ∉ M) (hx : cr T 360 x = cr S 360 x) (g : gSn S ρ dp x l) : gSn T ρ' dp x l := by
  obtain ⟨s, m, g1, g2, g3, g4⟩ := g
  obtain ⟨l1, l2⟩ := fr_ls h hm g2 g3
  exact ⟨s, m, hx.trans g1, l1, l2, g4⟩
/-- the writes ahead of a crash -/
def cIn : Option Nat → Int32
  | none => -1
  | some k => nI k
section WR
variable {S T : cS} {ρ ρ' : Nat → Nat} {dp x : Nat} {B : List Dc} {so : Nat → Nat} {sd : Nat → List Nat} {sg : Nat → List Dc}
theorem q_forget {Q : cS → Prop} {fd : Nat} (hf : cA S fd 1) (h : ∀ T, cSub S T (fun z => z = fd) → ci T 33 fd = nI 0 → ci T 36 fd = nI 0 → ci T 37 fd = nI 0 → ci T 38 fd = nI 0 → (∀ q, q ≠ 33 → q ≠ 36 → q ≠ 37 → q ≠ 38 → ci T q fd = ci S q fd) → (∀ q, cr T q fd = cr S q fd) → Q T) : k_X1_forget Q dp fd S := by
  unfold k_X1_forget
  refine ⟨hf, fun S1 e1 => ?_⟩
  have s1 : cSub S S1 (fun z => z = fd) := e1 ▸ sub_Si rfl
  refine ⟨sub_A1 s1 hf, fun S2 e2 => ?_⟩
  have s2 : cSub S S2 (fun z => z = fd) := sub_tr s1 (e2 ▸ sub_Si (F := fun z => z = fd) rfl) (fun _ _ z => z)
  refine ⟨sub_A1 s2 hf, fun S3 e3 => ?_⟩
  have s3 : cSub S S3 (fun z => z = fd) := sub_tr s2 (e3 ▸ sub_Si (F := fun z => z = fd) rfl) (fun _ _ z => z)
  refine ⟨sub_A1 s3 hf, fun S4 e4 => ?_⟩
  have s4 : cSub S S4 (fun z => z = fd) := sub_tr s3 (e4 ▸ sub_Si (F := fun z => z = fd) rfl) (fun _ _ z => z)
  exact h S4 s4 (hi_Si_q e4 (by decide) (hi_Si_q e3 (by decide) (hi_Si_q e2 (by decide) (hi_Si_s e1)))) (hi_Si_q e4 (by decide) (hi_Si_q e3 (by decide) (hi_Si_s e2))) (hi_Si_q e4 (by decide) (hi_Si_s e3)) (hi_Si_s e4) (fun q a b c d => hi_Si_q e4 d (hi_Si_q e3 c (hi_Si_q e2 b (hi_Si_q e1 a rfl)))) (fun q => hr_Si e4 (hr_Si e3 (hr_Si e2 (hr_Si e1 rfl))))
/-- a list is cleared -/
theorem q_clearG {Q : cS → Prop} {a kk m τ : Nat} {l : List Nat} (g : lsT S dp a kk l m) (ht : ∀ z, lsF S dp a z → ρ z = τ) (h : ∀ T, fr S T ρ (rtg S id ρ τ) [τ] → lsT T dp a kk [] m → (∀ z, lsF T dp a z → rtg S id ρ τ z = τ) → Q T) : k_Jx4a65c_clear_da8c8 Q dp a S := q_lclear g (fun T v t => h T ⟨sub_wk v.1 (fun z _ hz => by rw [ht z hz]; exact List.mem_singleton.mpr rfl), fun a ha _ => rtg_o ha⟩ t (fun z hz => by
  rcases v.2 z hz with w | w
  · exact (rtg_o (lsF_in g w)).trans (ht z w)
  · exact rtg_n w))
set_option maxHeartbeats 1000000 in
theorem q_goDown {Q : cS → Prop} {mc ms fd : Nat} {l : List Nat} (hx : cA S x 11) (hρ : ρ x = 1) (gb : gBf S ρ dp x B) (gn : gSn S ρ dp x l) (hf : cr S 365 x = some fd) (fA : cA S fd 1) (fρ : ρ fd = 21) (hdp : dpO dp S) (hm : 2 ≤ mc) (hs : 5 ≤ ms)
    (h : ∀ T ρ' V, fr S T ρ ρ' [1, 7, 14, 21] → gBf T ρ' dp x [] → gSn T ρ' dp x [] → (∀ lv, gVw T ρ' dp so sd sg 9 10 V [] lv) → cr T 355 x = some V → cr T 356 x = none → cr T 359 x = none → ci T 357 x = nI 0 → ci T 369 x = cIn none → ci T 370 x = bI true → (∀ q, q ≠ 357 → q ≠ 369 → q ≠ 370 → ci T q x = ci S q x) → (∀ q, q ≠ 355 → q ≠ 356 → q ≠ 359 → cr T q x = cr S q x) → ρ' x = 1 → ρ' fd = 21 → ci T 33 fd = nI 0 → ci T 36 fd = nI 0 → ci T 37 fd = nI 0 → ci T 38 fd = nI 0 → (∀ q, q ≠ 33 → q ≠ 36 → q ≠ 37 → q ≠ 38 → ci T q fd = ci S q fd) → (∀ q, cr T q fd = cr S q fd) → Q T) : k_X11_goDown Q dp mc ms x S := by
  obtain ⟨b, bs, bm, b1, b2, b3, b4, b5, b6, b7⟩ := gb
  obtain ⟨sn, sm, n1, n2, n3, n4⟩ := gn
  have w : ∀ (M : List Nat), (M.all (fun τ => [1, 7, 14, 21].contains τ)) = true → ∀ τ, τ ∈ M → τ ∈ [1, 7, 14, 21] := fun M hM τ hτ => List.contains_iff_mem.mp (List.all_eq_true.mp hM τ hτ)
  have tr : ∀ {S T U : cS} {r r' r'' : Nat → Nat}, fr S T r r' [1, 7, 14, 21] → fr T U r' r'' [1, 7, 14, 21] → fr S U r r'' [1, 7, 14, 21] := fun {S T U r r' r''} h1 h2 => by
    refine fr_tr h1 h2 (fun a ha hin => ?_)
    by_cases c : r a ∈ [1, 7, 14, 21]
    · exact c
    · rw [h1.2 a ha c] at hin; exact hin
  unfold k_X11_goDown
  refine ⟨hx, fun S1 e1 => ?_⟩
  have f1 : fr S S1 ρ ρ [1] := ⟨e1 ▸ sub_Si (F := fun a => ρ a ∈ [1]) (by rw [hρ]; decide), fun _ _ _ => rfl⟩
  refine ⟨fr_A f1 hx, fun S2 e2 => ?_⟩
  have f2 : fr S S2 ρ ρ [1] := fr_tr f1 ⟨e2 ▸ sub_Si (F := fun a => ρ a ∈ [1]) (by rw [hρ]; decide), fun _ _ _ => rfl⟩ (fun _ _ z => z)
  have x2 := fr_A f2 hx
  have r2 : ∀ q, cr S2 q x = cr S q x := fun q => hr_Si e2 (hr_Si e1 rfl)
  obtain ⟨b2', b3'⟩ := fr_ls f2 (by decide) b2 b3
  refine ⟨x2, b, (r2 _).trans b1, b2'.1, ⟨by omega, by omega⟩, q_clearG b2' b3' (fun S4 f4 l4 t4 => ?_)⟩
  obtain ⟨ρ4, hρ4⟩ : ∃ r, r = rtg S2 id ρ 7 := ⟨_, rfl⟩
  rw [← hρ4] at f4 t4
  have F4 := tr (fr_wk f2 (w _ rfl)) (fr_wk f4 (w _ rfl))
  have x4 := fr_A F4 hx
  have ρx4 : ρ4 x = 1 := fr_tg f4 x2.1 hρ (by decide)
  have r4 : ∀ q, cr S4 q x = cr S q x := fun q => (fr_cr f4 x2 (by rw [hρ]; decide)).trans (r2 q)
  refine ⟨x4, fun S5 e5 => ?_⟩
  have f5 : fr S4 S5 ρ4 ρ4 [1] := ⟨e5 ▸ sub_Sr (F := fun a => ρ4 a ∈ [1]) (by rw [ρx4]; decide), fun _ _ _ => rfl⟩
  refine ⟨fr_A f5 x4, fun S6 e6 => ?_⟩
  have f6 : fr S4 S6 ρ4 ρ4 [1] := fr_tr f5 ⟨e6 ▸ sub_Si (F := fun a => ρ4 a ∈ [1]) (by rw [ρx4]; decide), fun _ _ _ => rfl⟩ (fun _ _ z => z)
  have x6 := fr_A f6 x4
  have F6 := tr F4 (fr_wk f6 (w _ rfl))
  have r6 : ∀ q, q ≠ 356 → cr S6 q x = cr S q x := fun q hq => (hr_Si e6 (hr_Sr_q e5 hq rfl)).trans (r4 q)
  obtain ⟨n2a, n3a⟩ := fr_ls f2 (by decide) n2 n3
  obtain ⟨n2b, n3b⟩ := fr_ls f4 (by decide) n2a n3a
  obtain ⟨n2', n3'⟩ := fr_ls f6 (by decide) n2b n3b
  obtain ⟨l6, t6⟩ := fr_ls f6 (by decide) l4 t4
  refine ⟨x6, sn, (r6 _ (by decide)).trans n1, n2'.1, ⟨by omega, by omega⟩, q_clearG n2' n3' (fun S8 f8 l8 t8 => ?_)⟩
  obtain ⟨ρ8, hρ8⟩ : ∃ r, r = rtg S6 id ρ4 14 := ⟨_, rfl⟩
  rw [← hρ8] at f8 t8
  have F8 := tr F6 (fr_wk f8 (w _ rfl))
  have x8 := fr_A f8 x6
  have ρx8 : ρ8 x = 1 := fr_tg f8 x6.1 ρx4 (by decide)
  have r8 : ∀ q, q ≠ 356 → cr S8 q x = cr S q x := fun q hq => (fr_cr f8 x6 (by rw [ρx4]; decide)).trans (r6 q hq)
  obtain ⟨l8b, t8b⟩ := fr_ls f8 (by decide) l6 t6
  have fn2 : ρ fd ∉ [1] := by rw [fρ]; decide
  have ρf4 : ρ4 fd = 21 := fr_tg f4 (fr_A f2 fA).1 fρ (by decide)
  have fA4 := fr_A f4 (fr_A f2 fA)
  have fA6 := fr_A f6 fA4
  have ρf8 : ρ8 fd = 21 := fr_tg f8 fA6.1 ρf4 (by decide)
  have fA8 := fr_A f8 fA6
  have fi8 : ∀ q, ci S8 q fd = ci S q fd := fun q => (fr_ci f8 fA6 (by rw [ρf4]; decide)).trans ((fr_ci f6 fA4 (by rw [ρf4]; decide)).trans ((fr_ci f4 (fr_A f2 fA) (by rw [fρ]; decide)).trans (fr_ci f2 fA fn2)))
  have fr8 : ∀ q, cr S8 q fd = cr S q fd := fun q => (fr_cr f8 fA6 (by rw [ρf4]; decide)).trans ((fr_cr f6 fA4 (by rw [ρf4]; decide)).trans ((fr_cr f4 (fr_A f2 fA) (by rw [fρ]; decide)).trans (fr_cr f2 fA fn2)))
  refine ⟨x8, fd, (r8 _ (by decide)).trans hf, fA8, ⟨by omega, by omega⟩, q_forget fA8 (fun S10 s10 c33 c36 c37 c38 ci10 cr10 => ?_)⟩
  have f10 : fr S8 S10 ρ8 ρ8 [21] := ⟨sub_wk s10 (fun z _ hz => by rw [hz, ρf8]; decide), fun _ _ _ => rfl⟩
  have F10 := tr F8 (fr_wk f10 (w _ rfl))
  have x10 := fr_A f10 x8
  have r10 : ∀ q, q ≠ 356 → cr S10 q x = cr S q x := fun q hq => (fr_cr f10 x8 (by rw [ρx8]; decide)).trans (r8 q hq)
  refine ⟨x10, fun S11 e11 => ⟨⟨by omega, by omega⟩, fun q12 hq12 S13 e13 => ⟨1, 3, by omega, by omega, ?_⟩⟩⟩
  have f11 : fr S10 S11 ρ8 ρ8 [1] := ⟨e11 ▸ sub_Sr (F := fun a => ρ8 a ∈ [1]) (by rw [ρx8]; decide), fun _ _ _ => rfl⟩
  have x11 := fr_A f11 x10
  have F11 := tr F10 (fr_wk f11 (w _ rfl))
  have s13 : cSub S11 S13 (fun _ => False) := e13 ▸ sub_N hq12
  have dp13 : dpO dp S13 := dp_O
  refine q_vinit (so := so) (sd := sd) (sg := sg) (lv := fun _ _ => false) ⟨hm_No e13, hk_No e13⟩ dp13 (Nat.le_refl _) (Nat.le_refl _) (fun S16 lst s16 _ hlst g16 => ?_)
  have s1116 : cSub S11 S16 (fun _ => False) := sub_tr s13 s16 (fun a ha z => absurd z (cm_nq hq12 ha))
  -- the new view: its object has tag 10, its list tag 9
  obtain ⟨ρ16, hρ16⟩ : ∃ r, r = rtg S13 (fun τ => τ) (rtg S11 id ρ8 10) 9 := ⟨_, rfl⟩
  have o16 : ∀ a, a ∈ cL S11 → ρ16 a = ρ8 a := fun a ha => by
    rw [hρ16]
    exact (rtg_o (s13 a ha).1.1).trans (rtg_o ha)
  have f16 : fr S11 S16 ρ8 ρ16 [1] := ⟨sub_wk s1116 (fun _ _ z => z.elim), fun a ha _ => o16 a ha⟩
  have x16 := fr_A f16 x11
  refine ⟨x16, fun S17 e17 => ⟨⟨by omega, by omega⟩, ?_⟩⟩
  have ρx16 : ρ16 x = 1 := (o16 x x11.1).trans ρx8
  have f17 : fr S16 S17 ρ16 ρ16 [1] := ⟨e17 ▸ sub_Sr (F := fun a => ρ16 a ∈ [1]) (by rw [ρx16]; decide), fun _ _ _ => rfl⟩
  have F17 := tr (tr F11 (fr_wk f16 (w _ rfl))) (fr_wk f17 (w _ rfl))
  have F8_17 : fr S8 S17 ρ8 ρ16 [1, 21] := by
    have w2 : ∀ (M : List Nat), (M.all (fun τ => [1, 21].contains τ)) = true → ∀ τ, τ ∈ M → τ ∈ [1, 21] := fun M hM τ hτ => List.contains_iff_mem.mp (List.all_eq_true.mp hM τ hτ)
    have tr2 : ∀ {S T U : cS} {r r' r'' : Nat → Nat}, fr S T r r' [1, 21] → fr T U r' r'' [1, 21] → fr S U r r'' [1, 21] := fun {S T U r r' r''} h1 h2 => by
      refine fr_tr h1 h2 (fun a ha hin => ?_)
      by_cases c : r a ∈ [1, 21]
      · exact c
      · rw [h1.2 a ha c] at hin; exact hin
    exact tr2 (tr2 (tr2 (fr_wk f10 (w2 _ rfl)) (fr_wk f11 (w2 _ rfl))) (fr_wk f16 (w2 _ rfl))) (fr_wk f17 (w2 _ rfl))
  have nf : ¬ False := fun z => z
  have r17 : ∀ q, q ≠ 355 → q ≠ 356 → q ≠ 359 → cr S17 q x = cr S q x := fun q a b c => (hr_Sr_q e17 a rfl).trans ((sub_cr s1116 x11 nf).trans ((hr_Sr_q e11 c rfl).trans (r10 q b)))
  have i17 : ∀ q, ci S17 q x = ci S6 q x := fun q => (hi_Sr e17 rfl).trans ((sub_ci s1116 x11 nf).trans ((hi_Sr e11 rfl).trans ((fr_ci f10 x8 (by rw [ρx8]; decide)).trans (fr_ci f8 x6 (by rw [ρx4]; decide)))))
  have i6 : ∀ q, q ≠ 357 → ci S6 q x = ci S2 q x := fun q hq => (hi_Si_q e6 hq (hi_Sr e5 rfl)).trans (fr_ci f4 x2 (by rw [hρ]; decide))
  have c356 : cr S17 356 x = none := (hr_Sr_q e17 (by decide) rfl).trans ((sub_cr s1116 x11 nf).trans ((hr_Sr_q e11 (by decide) rfl).trans ((fr_cr f10 x8 (by rw [ρx8]; decide)).trans ((fr_cr f8 x6 (by rw [ρx4]; decide)).trans (hr_Si e6 (hr_Sr_s e5))))))
  have c359 : cr S17 359 x = none := (hr_Sr_q e17 (by decide) rfl).trans ((sub_cr s1116 x11 nf).trans (hr_Sr_s e11))
  obtain ⟨l17, t17⟩ := fr_ls F8_17 (by decide) l8b t8b
  obtain ⟨k17, u17⟩ := fr_ls F8_17 (by decide) l8 t8
  have fA10 := fr_A f10 fA8
  have fA11 := fr_A f11 fA10
  have fA16 := fr_A f16 fA11
  have ρf16 : ρ16 fd = 21 := (o16 fd fA11.1).trans ρf8
  have fi17 : ∀ q, ci S17 q fd = ci S10 q fd := fun q => (hi_Sr e17 rfl).trans ((sub_ci s1116 fA11 nf).trans (hi_Sr e11 rfl))
  have fr17 : ∀ q, cr S17 q fd = cr S10 q fd := fun q => (fr_cr f17 fA16 (by rw [ρf16]; decide)).trans ((sub_cr s1116 fA11 nf).trans (fr_cr f11 fA10 (by rw [ρf8]; decide)))
  have q16 : q12 ∈ cL S13 := hm_No e13
  have ρq : ρ16 q12 = 10 := by
    rw [hρ16]
    exact (rtg_o q16).trans (rtg_n hq12)
  have ρl : ρ16 lst = 9 := by
    rw [hρ16]
    exact rtg_n hlst
  obtain ⟨v1, v2, v3, v4, -⟩ := g16
  have lF : ∀ z, lsF S16 dp lst z → z = lst := fun z hz => by
    obtain ⟨-, -, -, -, -, -, c, hc, hx⟩ := v3
    rcases hz with y | ⟨y, y2⟩
    · exact y
    · obtain rfl : c = z := Option.some.inj (hc.symm.trans y)
      rcases hx with hx | hx
      · exact absurd hx.1 y2
      · omega
  have v3' := lsT_sub f17.1 v3 (fun z hz => by rw [lF z hz, ρl]; decide)
  refine h S17 ρ16 q12 F17 ⟨b, [], bm, (r17 _ (by decide) (by decide) (by decide)).trans b1, l17, t17, b4, rfl, by decide, fun i D d hi => absurd (get_lt hi) (Nat.not_lt_zero i)⟩ ⟨sn, sm, (r17 _ (by decide) (by decide) (by decide)).trans n1, k17, u17, n4⟩ (fun lv => ⟨lst, 0, [], ⟨fr_A f17 v1, (fr_cr f17 v1 (by rw [ρq]; decide)).trans v2, v3', rfl, fun i y n hi => absurd (get_lt hi) (Nat.not_lt_zero i)⟩, by decide, fun i j y z r hi => absurd (get_lt hi) (Nat.not_lt_zero i), ρq, fun z hz => ?_, fun y hy => absurd hy (List.not_mem_nil)⟩) (hr_Sr_s e17) c356 c359 ((i17 _).trans (hi_Si_s e6)) ((i17 _).trans ((i6 _ (by decide)).trans (hi_Si_s e2))) ((i17 _).trans ((i6 _ (by decide)).trans (hi_Si_q e2 (by decide) (hi_Si_s e1)))) (fun q a b c => (i17 q).trans ((i6 q a).trans (hi_Si_q e2 b (hi_Si_q e1 c rfl)))) r17 ρx16 ρf16 ((fi17 _).trans c33) ((fi17 _).trans c36) ((fi17 _).trans c37) ((fi17 _).trans c38) (fun q a b c d => (fi17 q).trans ((ci10 q a b c d).trans (fi8 q))) (fun q => (fr17 q).trans ((cr10 q).trans (fr8 q)))
  have hz' : lsF S16 dp lst z := by
    unfold lsF at hz ⊢
    rw [show cr S17 385 lst = cr S16 385 lst from fr_cr f17 v3.1 (by rw [ρl]; decide)] at hz; exact hz
  rw [lF z hz']; exact ρl
end WR
