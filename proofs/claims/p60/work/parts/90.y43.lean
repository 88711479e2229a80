/-! the class: merges are begun and given up, commits, opening -/
/-- the index's part of the machine has changed, nothing else -/
def evI (S T : cS) (ρ ρ' : Nat → Nat) (x : Nat) : Prop := fr S T ρ ρ' [1, 7, 9, 10, 14, 81, 82, 83, 84, 85] ∧ (∀ q, q ∉ [354, 355, 356, 357, 358, 359, 360, 361] → cr T q x = cr S q x) ∧ ρ' x = 1
section OI
variable {S T : cS} {ρ ρ' : Nat → Nat} {dp x made : Nat} {so : Nat → Nat} {sd : Nat → List Nat} {sg : Nat → List Dc} {B : List Dc} {ix : Vw} {mg : Option (Vw × Nat)} {cm pr : Option Vw} {sn : List (Nat × Vw)} {op fi w : Nat} {cc : Option Nat} {off : Bool}
/-- a copy of some of a view -/
theorem g_vcopy {Q : Nat → cS → Prop} {V from_ cnt mc ms τl τh τl' τh' : Nat} {ids : List Nat} {lv : Nat → Nat → Bool} (g : gVw S ρ dp so sd sg τl τh V ids lv) (hdp : dpO dp S) (hfc : from_ + cnt ≤ ids.length) (hid : ids.length ≤ 300) (hc : 3 * cnt + 4 ≤ mc) (hms : 45 + 8 * cnt + sumL (fun n => (sg n).length) ((ids.drop from_).take cnt) ≤ ms) (h : ∀ T ρ' V', fr S T ρ ρ' [] → V' ∉ cL S → gVw T ρ' dp so sd sg τl' τh' V' ((ids.drop from_).take cnt) lv → Q V' T) : k_X10_copyOf Q dp mc ms V (nI from_) (nI cnt) S := by
  obtain ⟨hl, m, hs, g1, -⟩ := g
  refine q_vcopy g1 hdp hfc hid hc hms (fun T V' hl' m' hs' hm s hN t => ?_)
  obtain ⟨f, gV⟩ := mkVw (ρ := ρ) (τl := τl') (τh := τh') s hN t (by omega)
  exact h T _ V' f hN.1 gV
theorem g_vlive {Q : Int32 → cS → Prop} {V τl τh : Nat} {ids : List Nat} {lv : Nat → Nat → Bool} (g : gVw S ρ dp so sd sg τl τh V ids lv) (h : Q (nI (sumL (fun n => cntB (lv n) (sg n).length) ids)) S) : k_X10_liveCount Q dp V S := by
  obtain ⟨hl, m, hs, g1, -⟩ := g
  exact q_vlive g1 h
theorem g_vA {V τl τh : Nat} {ids : List Nat} {lv : Nat → Nat → Bool} (g : gVw S ρ dp so sd sg τl τh V ids lv) : cA S V 10 ∧ ρ V = τh := by
  obtain ⟨hl, m, hs, g1, -, -, g4, -⟩ := g
  exact ⟨g1.1, g4⟩
theorem g_vsize {Q : Int32 → cS → Prop} {V τl τh : Nat} {ids : List Nat} {lv : Nat → Nat → Bool} (g : gVw S ρ dp so sd sg τl τh V ids lv) (h : Q (nI ids.length) S) : k_X10_size Q dp V S := by
  obtain ⟨hl, m, hs, g1, -⟩ := g
  exact q_vsize g1 h
theorem ov_none {o : Option Nat} (g : gOv S ρ dp so sd sg o none) : o = none := by
  cases o with
  | none => rfl
  | some V => exact absurd g id
theorem ov_some {o : Option Nat} {v : Vw} (g : gOv S ρ dp so sd sg o (some v)) : ∃ V, o = some V ∧ gVw S ρ dp so sd sg 11 11 V v.1 v.2 := by
  cases o with
  | none => exact absurd g id
  | some V => exact ⟨V, rfl, g⟩
/-- fields of the object are written -/
theorem fr_x1 {M : List Nat} (f : fr S T ρ ρ' M) {U : cS} (hρ : ρ' x = 1) (h1 : 1 ∈ M) (s : cSub T U (fun z => z = x)) : fr S U ρ ρ' M := fr_mix f ⟨sub_wk s (fun z _ hz => by rw [hz, hρ]; exact h1), fun _ _ _ => rfl⟩
theorem fk_I {M : List Nat} (f : fr S T ρ ρ' M) (h : M.all (fun τ => [1].contains τ) = true) : fk S T ρ ρ' [1] := fr_fk (fr_up f h) (by decide)
/-- a merge is begun -/
theorem g_merge {Q : Int32 → cS → Prop} {k mc ms : Nat} (g : gIx S ρ dp x so sd sg made B ix none cm pr sn op fi w cc false) (hM : ixM made ix none cm pr sn) (hlen : ix.1.length ≤ 300) (hk : dueI sg ix.1 k) (hmin : ∀ i, i < k → ¬ dueI sg ix.1 i) (hmade : made < 200) (hm : 20 ≤ mc) (hs : 400 ≤ ms)
    (h : ∀ T ρ', evI S T ρ ρ' x → gIx T ρ' dp x so sd sg made B ix (some (((ix.1.drop k).take 3, ix.2), 0)) cm pr sn op fi w cc false → Q (nI (sumL (fun n => cntB (ix.2 n) (sg n).length) ((ix.1.drop k).take 3))) T) : k_X11_merge Q dp mc ms x S := by
  obtain ⟨⟨hx, hρ, hdp⟩, gs, gb, ⟨V, e355, gv⟩, ⟨go, e357⟩, gc, gp, gl, i361, i366, i367, i368, i369, i370⟩ := id g
  have e356 := ov_none go
  obtain ⟨hl, vm, hs', gx⟩ := id gv
  unfold k_X11_merge
  refine ⟨hx, ⟨by omega, by omega⟩, q_checkUp hx i370 ⟨hx, V, e355, gx.1.1, ⟨by omega, by omega⟩, q_vdue gx.1 (fun k' hk' hmin' => ?_) (fun hno => absurd hk (hno k))⟩⟩
  have hkk : k' = k := by
    rcases Nat.lt_trichotomy k' k with z | z | z
    · exact absurd hk' (hmin k' z)
    · exact z
    · exact absurd hk (hmin' k z)
  subst hkk
  have hk3 : k' + 3 ≤ ix.1.length := by
    obtain ⟨a, b, c, -, -, h3, -⟩ := hk
    have := get_lt h3; omega
  have hne : ¬ nI k' = (-1 : Int32) := by
    intro e
    have := nI_pos (n := k') (by omega)
    rw [e] at this
    exact this (by decide)
  have sum3 : sumL (fun n => (sg n).length) ((ix.1.drop k').take 3) ≤ 300 := by
    have h1 : ∀ l : List Nat, (∀ n, n ∈ l → n < made) → sumL (fun n => (sg n).length) l ≤ 100 * l.length := by
      intro l
      induction l with
      | nil => intro _; exact Nat.le_refl _
      | cons n l ih =>
        intro hl
        have := ih (fun m hm => hl m (List.mem_cons_of_mem _ hm))
        have := (gs n (hl n (List.mem_cons_self ..))).2.2.2.2.2.1
        rw [sumL, List.length_cons]; omega
    have := h1 ((ix.1.drop k').take 3) (fun n hn => hM.1 n (List.mem_of_mem_drop (List.mem_of_mem_take hn)))
    have : ((ix.1.drop k').take 3).length ≤ 3 := by rw [List.length_take]; omega
    omega
  refine ⟨fun e => absurd e hne, fun _ => ⟨hx, fun _ => ⟨hx, fun _ => ⟨hx, V, e355, gx.1.1, 13, 369, by omega, by omega, ?_⟩, fun c => absurd ((nI_ltI (by omega) (by decide)).mpr hmade) (by rw [i366] at c; exact c)⟩, fun b4 hb => absurd (e356.symm.trans hb) (by simp)⟩⟩
  refine g_vcopy (τl' := 11) (τh' := 11) gv hdp hk3 hlen (Nat.le_refl _) (by omega) (fun T1 ρ1 V' f1 nV' gV' => ?_)
  have x1 := fr_A f1 hx
  have ρx1 : ρ1 x = 1 := fr_tg f1 hx.1 hρ (by decide)
  refine ⟨x1, fun S9 e9 => ?_⟩
  have s9 : cSub T1 S9 (fun z => z = x) := e9 ▸ sub_Sr rfl
  refine ⟨sub_A1 s9 x1, fun S10 e10 => ?_⟩
  have s10 : cSub T1 S10 (fun z => z = x) := sub_tr s9 (e10 ▸ sub_Si rfl) (fun _ _ z => z)
  have x10 := sub_A1 s10 x1
  have f10 : fr S S10 ρ ρ1 [1] := fr_x1 (fr_up f1 rfl) ρx1 (by decide) s10
  have fI := fr_fk f10 (by decide)
  have f110 : fr T1 S10 ρ1 ρ1 [1] := ⟨sub_wk s10 (fun z _ hz => by rw [hz, ρx1]; decide), fun _ _ _ => rfl⟩
  have e356' : cr S10 356 x = some V' := hr_Si e10 (hr_Sr_s e9)
  have r10 : ∀ q, q ≠ 356 → cr S10 q x = cr S q x := fun q hq => (hr_Si e10 (hr_Sr_q e9 hq rfl)).trans (fr_cr f1 hx (by simp))
  have i10 : ∀ q, q ≠ 357 → ci S10 q x = ci S q x := fun q hq => (hi_Si_q e10 hq (hi_Sr e9 rfl)).trans (fr_ci f1 hx (by simp))
  have gs10 := gSegs_fr fI (by decide) gs
  have hid3 : ∀ n, n ∈ (ix.1.drop k').take 3 → n < made := fun n hn => hM.1 n (List.mem_of_mem_drop (List.mem_of_mem_take hn))
  have gV10 := gVw_fr f110 (by decide) (by decide) gs10 hid3 gV'
  refine ⟨x10, fun c => absurd (e356'.symm.trans c) (by simp), fun b hb => ?_⟩
  obtain rfl : V' = b := Option.some.inj (e356'.symm.trans hb)
  refine ⟨(g_vA gV10).1, ⟨by omega, by omega⟩, g_vlive gV10 ⟨⟨by omega, by omega⟩, h S10 ρ1 ⟨fr_up f10 rfl, fun q hq => r10 q (fun e => hq (by rw [e]; decide)), ρx1⟩ ?_⟩⟩
  refine ⟨⟨x10, ρx1, dp_O⟩, gs10, gBf_fr f10 (by decide) (by decide) (r10 _ (by decide)) gb, ⟨V, (r10 _ (by decide)).trans e355, gVw_fr f10 (by decide) (by decide) gs10 hM.1 gv⟩, ⟨?_, hi_Si_s e10⟩, ?_, ?_, gSs_fr f10 (by decide) (by decide) (r10 _ (by decide)) gs10 hM.2.2.2.2 gl, (i10 _ (by decide)).trans i361, (i10 _ (by decide)).trans i366, (i10 _ (by decide)).trans i367, (i10 _ (by decide)).trans i368, (i10 _ (by decide)).trans i369, (i10 _ (by decide)).trans i370⟩
  · rw [e356']; exact gV10
  · rw [r10 _ (by decide)]; exact gOv_fr f10 (by decide) gs10 hM.2.2.1 gc
  · rw [r10 _ (by decide)]; exact gOv_fr f10 (by decide) gs10 hM.2.2.2.1 gp
/-- fields of the object alone are written -/
theorem gIx_x {mg' : Option (Vw × Nat)} {cm' pr' : Option Vw} {op' fi' w' : Nat} {cc' : Option Nat} {off' : Bool} (s : cSub S T (fun z => z = x)) (hM : ixM made ix mg cm pr sn) (g : gIx S ρ dp x so sd sg made B ix mg cm pr sn op fi w cc off) (hr : ∀ q, q ∈ [354, 355, 360] → cr T q x = cr S q x) (h1 : (∃ q, (q = 356 ∨ q = 358 ∨ q = 359) ∧ cr T 356 x = cr S q x ∧ mg'.map (fun m => m.1) = (if q = 356 then mg.map (fun m => m.1) else if q = 358 then cm else pr)) ∨ (cr T 356 x = none ∧ mg' = none)) (h2 : (∃ q, (q = 356 ∨ q = 358 ∨ q = 359) ∧ cr T 358 x = cr S q x ∧ cm' = (if q = 356 then mg.map (fun m => m.1) else if q = 358 then cm else pr)) ∨ (cr T 358 x = none ∧ cm' = none)) (h3 : (∃ q, (q = 356 ∨ q = 358 ∨ q = 359) ∧ cr T 359 x = cr S q x ∧ pr' = (if q = 356 then mg.map (fun m => m.1) else if q = 358 then cm else pr)) ∨ (cr T 359 x = none ∧ pr' = none)) (i1 : ci T 357 x = nI (mgC mg')) (i2 : ci T 361 x = nI op') (i3 : ci T 366 x = ci S 366 x) (i4 : ci T 367 x = nI fi') (i5 : ci T 368 x = nI w') (i6 : ci T 369 x = cIn cc') (i7 : ci T 370 x = bI off') : gIx T ρ dp x so sd sg made B ix mg' cm' pr' sn op' fi' w' cc' off' := by
  obtain ⟨⟨hx, hρ, hdp⟩, gs, gb, ⟨V, e355, gv⟩, ⟨go, e357⟩, gc, gp, gl, i361, i366, i367, i368, i369, i370⟩ := g
  have f : fr S T ρ ρ [1] := ⟨sub_wk s (fun z _ hz => by rw [hz, hρ]; decide), fun _ _ _ => rfl⟩
  have gs' := gSegs_fr (fr_fk f (by decide)) (by decide) gs
  have key : ∀ {o : Option Nat} {w' : Option Vw}, ((∃ q, (q = 356 ∨ q = 358 ∨ q = 359) ∧ o = cr S q x ∧ w' = (if q = 356 then mg.map (fun m => m.1) else if q = 358 then cm else pr)) ∨ (o = none ∧ w' = none)) → gOv T ρ dp so sd sg o w' := by
    rintro o w' (⟨q, rfl | rfl | rfl, rfl, rfl⟩ | ⟨rfl, rfl⟩)
    · exact gOv_fr f (by decide) gs' hM.2.1 go
    · exact gOv_fr f (by decide) gs' hM.2.2.1 gc
    · exact gOv_fr f (by decide) gs' hM.2.2.2.1 gp
    · trivial
  refine ⟨⟨sub_A1 s hx, hρ, dp_O⟩, gs', gBf_fr f (by decide) (by decide) (hr _ (by decide)) gb, ⟨V, (hr _ (by decide)).trans e355, gVw_fr f (by decide) (by decide) gs' hM.1 gv⟩, ⟨key ?_, i1⟩, key h2, key h3, gSs_fr f (by decide) (by decide) (hr _ (by decide)) gs' hM.2.2.2.2 gl, i2, i3.trans i366, i4, i5, i6, i7⟩
  rcases h1 with h1 | ⟨h1, h2⟩
  · exact Or.inl h1
  · exact Or.inr ⟨h1, by rw [h2]; rfl⟩
theorem evI_x (s : cSub S T (fun z => z = x)) (hρ : ρ x = 1) (hr : ∀ q, q ∉ [354, 355, 356, 357, 358, 359, 360, 361] → cr T q x = cr S q x) : evI S T ρ ρ x := ⟨⟨sub_wk s (fun z _ hz => by rw [hz, hρ]; decide), fun _ _ _ => rfl⟩, hr, hρ⟩
theorem g_giveUp {Q : Int32 → cS → Prop} {src : Vw} {c : Nat} (g : gIx S ρ dp x so sd sg made B ix (some (src, c)) cm pr sn op fi w cc false) (hM : ixM made ix (some (src, c)) cm pr sn) (h : ∀ T, evI S T ρ ρ x → gIx T ρ dp x so sd sg made B ix none cm pr sn op fi w cc false → Q (nI c) T) : k_X11_giveUp Q dp x S := by
  obtain ⟨⟨hx, hρ, hdp⟩, gs, gb, ⟨V, e355, gv⟩, ⟨go, e357⟩, gc, gp, gl, i361, i366, i367, i368, i369, i370⟩ := id g
  obtain ⟨W, e356, gw⟩ := ov_some go
  unfold k_X11_giveUp
  refine ⟨hx, q_checkUp hx i370 ⟨hx, fun c => absurd (e356.symm.trans c) (by simp), fun b hb => ⟨hx, ?_⟩⟩⟩
  rintro _ rfl
  refine ⟨hx, fun S4 e4 => ?_⟩
  have s4 : cSub S S4 (fun z => z = x) := e4 ▸ sub_Sr rfl
  refine ⟨sub_A1 s4 hx, fun S5 e5 => ?_⟩
  have s5 : cSub S S5 (fun z => z = x) := sub_tr s4 (e5 ▸ sub_Si rfl) (fun _ _ z => z)
  have r5 : ∀ q, q ≠ 356 → cr S5 q x = cr S q x := fun q hq => hr_Si e5 (hr_Sr_q e4 hq rfl)
  have i5 : ∀ q, q ≠ 357 → ci S5 q x = ci S q x := fun q hq => hi_Si_q e5 hq (hi_Sr e4 rfl)
  rw [e357]
  refine h S5 (evI_x s5 hρ (fun q hq => r5 q (fun e => hq (by rw [e]; decide)))) (gIx_x s5 hM g (fun q hq => r5 q (fun e => by rw [e] at hq; revert hq; decide)) (Or.inr ⟨hr_Si e5 (hr_Sr_s e4), rfl⟩) (Or.inl ⟨358, Or.inr (Or.inl rfl), r5 _ (by decide), rfl⟩) (Or.inl ⟨359, Or.inr (Or.inr rfl), r5 _ (by decide), rfl⟩) (hi_Si_s e5) ((i5 _ (by decide)).trans i361) (i5 _ (by decide)) ((i5 _ (by decide)).trans i367) ((i5 _ (by decide)).trans i368) ((i5 _ (by decide)).trans i369) ((i5 _ (by decide)).trans i370))
theorem g_drop {Q : cS → Prop} {v : Vw} (g : gIx S ρ dp x so sd sg made B ix mg cm (some v) sn op fi w cc false) (hM : ixM made ix mg cm (some v) sn) (h : ∀ T, evI S T ρ ρ x → gIx T ρ dp x so sd sg made B ix mg cm none sn op fi w cc false → Q T) : k_X11_drop Q dp x S := by
  obtain ⟨⟨hx, hρ, hdp⟩, gs, gb, ⟨V, e355, gv⟩, ⟨go, e357⟩, gc, gp, gl, i361, i366, i367, i368, i369, i370⟩ := id g
  obtain ⟨W, e359, gw⟩ := ov_some gp
  unfold k_X11_drop
  refine ⟨hx, q_checkUp hx i370 ⟨hx, fun c => absurd (e359.symm.trans c) (by simp), fun b hb => ⟨hx, fun S3 e3 => ?_⟩⟩⟩
  have s3 : cSub S S3 (fun z => z = x) := e3 ▸ sub_Sr rfl
  have r3 : ∀ q, q ≠ 359 → cr S3 q x = cr S q x := fun q hq => hr_Sr_q e3 hq rfl
  have i3 : ∀ q, ci S3 q x = ci S q x := fun q => hi_Sr e3 rfl
  exact h S3 (evI_x s3 hρ (fun q hq => r3 q (fun e => hq (by rw [e]; decide)))) (gIx_x s3 hM g (fun q hq => r3 q (fun e => by rw [e] at hq; revert hq; decide)) (Or.inl ⟨356, Or.inl rfl, r3 _ (by decide), rfl⟩) (Or.inl ⟨358, Or.inr (Or.inl rfl), r3 _ (by decide), rfl⟩) (Or.inr ⟨hr_Sr_s e3, rfl⟩) ((i3 _).trans e357) ((i3 _).trans i361) (i3 _) ((i3 _).trans i367) ((i3 _).trans i368) ((i3 _).trans i369) ((i3 _).trans i370))
theorem g_crashAt {Q : cS → Prop} {k : Nat} (g : gIx S ρ dp x so sd sg made B ix mg cm pr sn op fi w cc false) (hM : ixM made ix mg cm pr sn) (hk : k ≤ 1000) (h : ∀ T, evI S T ρ ρ x → gIx T ρ dp x so sd sg made B ix mg cm pr sn op fi w (some k) false → Q T) : k_X11_crashAt Q dp x (nI k) S := by
  obtain ⟨⟨hx, hρ, hdp⟩, gs, gb, ⟨V, e355, gv⟩, ⟨go, e357⟩, gc, gp, gl, i361, i366, i367, i368, i369, i370⟩ := id g
  unfold k_X11_crashAt
  refine ⟨fun c => absurd c (nI_pos (by omega)), fun _ => ⟨fun _ => ⟨hx, q_checkUp hx i370 ⟨hx, fun S2 e2 => ?_⟩⟩, fun c => absurd ((nI_leI (by omega) (by decide)).mpr hk) c⟩⟩
  have s2 : cSub S S2 (fun z => z = x) := e2 ▸ sub_Si rfl
  have r2 : ∀ q, cr S2 q x = cr S q x := fun q => hr_Si e2 rfl
  have i2 : ∀ q, q ≠ 369 → ci S2 q x = ci S q x := fun q hq => hi_Si_q e2 hq rfl
  exact h S2 (evI_x s2 hρ (fun q _ => r2 q)) (gIx_x s2 hM g (fun q _ => r2 q) (Or.inl ⟨356, Or.inl rfl, r2 _, rfl⟩) (Or.inl ⟨358, Or.inr (Or.inl rfl), r2 _, rfl⟩) (Or.inl ⟨359, Or.inr (Or.inr rfl), r2 _, rfl⟩) ((i2 _ (by decide)).trans e357) ((i2 _ (by decide)).trans i361) (i2 _ (by decide)) ((i2 _ (by decide)).trans i367) ((i2 _ (by decide)).trans i368) (hi_Si_s e2) ((i2 _ (by decide)).trans i370))
end OI
