/-! the class: opening, snapshots -/
/-- what the last commit names -/
def cmV : Option Vw → Vw
  | none => ([], fun _ _ => true)
  | some v => v
theorem ls_kind {S : cS} {dp a kk m z : Nat} {l : List Nat} (g : lsT S dp a kk l m) (hz : lsF S dp a z) : cA S z 12 ∨ cA S z 17 := by
  obtain ⟨l1, -, -, -, -, -, b, hb, hx⟩ := g
  rcases hz with w | ⟨w, w2⟩
  · exact Or.inl (w ▸ l1)
  · obtain rfl : b = z := Option.some.inj (hb.symm.trans w)
    rcases hx with hx | hx
    · exact absurd hx.1 w2
    · exact Or.inr hx.2.2.1
theorem ls_nk {S : cS} {dp a kk m z b j : Nat} {l : List Nat} (g : lsT S dp a kk l m) (hz : lsF S dp a z) (hb : cA S b j) (h1 : j ≠ 12) (h2 : j ≠ 17) : ¬ z = b := by
  rcases ls_kind g hz with h | h
  · exact cA_ne h hb (Ne.symm h1)
  · exact cA_ne h hb (Ne.symm h2)
section OO
variable {S T U : cS} {ρ ρ' : Nat → Nat} {dp x made : Nat} {so : Nat → Nat} {sd : Nat → List Nat} {sg : Nat → List Dc} {B : List Dc} {ix : Vw} {mg : Option (Vw × Nat)} {cm pr : Option Vw} {sn : List (Nat × Vw)} {op fi w : Nat} {cc : Option Nat} {off : Bool}
theorem g_committed {Q : Nat → cS → Prop} {mc ms τl τh : Nat} (g : gIx S ρ dp x so sd sg made B ix mg cm pr sn op fi w cc off) (hlen : (cmV cm).1.length ≤ 300) (hm : 3 * (cmV cm).1.length + 4 ≤ mc) (hs : 45 + 8 * (cmV cm).1.length + sumL (fun n => (sg n).length) (cmV cm).1 ≤ ms) (h : ∀ T ρ' V', fr S T ρ ρ' [] → V' ∉ cL S → gVw T ρ' dp so sd sg τl τh V' (cmV cm).1 (cmV cm).2 → Q V' T) : k_X11_committed Q dp mc ms x S := by
  obtain ⟨⟨hx, hρ, hdp⟩, gs, gb, ⟨V, e355, gv⟩, ⟨go, e357⟩, gc, gp, gl, ii⟩ := g
  unfold k_X11_committed
  cases cm with
  | none =>
    have e := ov_none gc
    refine ⟨hx, fun _ => ⟨⟨by omega, by omega⟩, fun q hq S3 e3 => ⟨1, 3, by omega, by omega, ?_⟩⟩, fun b hb => absurd (e.symm.trans hb) (by simp)⟩
    have s3 : cSub S S3 (fun _ => False) := e3 ▸ sub_N hq
    refine q_vinit (so := so) (sd := sd) (sg := sg) (lv := (cmV none).2) ⟨hm_No e3, hk_No e3⟩ dp_O (Nat.le_refl _) (Nat.le_refl _) (fun T l s _ hl g => ⟨⟨by omega, by omega⟩, ?_⟩)
    have sT : cSub S T (fun _ => False) := sub_tr s3 s (fun a ha z => absurd z (cm_nq hq ha))
    have hN : vwN S T dp q l [] := ⟨hq, fun z hz => by rw [ls0_F g.2.2.1 hz]; exact fun y => hl (s3 l y).1.1, fun i y hi => absurd (get_lt hi) (Nat.not_lt_zero i), fun i j y z r hi => absurd (get_lt hi) (Nat.not_lt_zero i)⟩
    obtain ⟨f, gV⟩ := mkVw (ρ := ρ) (τl := τl) (τh := τh) sT hN g (by decide)
    exact h T _ q f hq gV
  | some v =>
    obtain ⟨C, e, gC⟩ := ov_some gc
    have allE : (v.1.drop 0).take v.1.length = v.1 := by rw [List.drop_zero, List.take_length]
    have hlen : v.1.length ≤ 300 := hlen
    have hm : 3 * v.1.length + 4 ≤ mc := hm
    have hs : 45 + 8 * v.1.length + sumL (fun n => (sg n).length) v.1 ≤ ms := hs
    refine ⟨hx, fun c => absurd (e.symm.trans c) (by simp), fun b hb => ?_⟩
    obtain rfl : C = b := Option.some.inj (e.symm.trans hb)
    refine ⟨(g_vA gC).1, ⟨by omega, by omega⟩, g_vsize gC ⟨(g_vA gC).1, mc, ms, by omega, by omega, ?_⟩⟩
    refine g_vcopy (τl' := τl) (τh' := τh) gC hdp (by omega) hlen hm (by rw [allE]; exact hs) (fun T1 ρ1 W f1 nW gW => ⟨⟨by omega, by omega⟩, ?_⟩)
    rw [allE] at gW
    exact h T1 ρ1 W f1 nW gW
/-- the machine is opened -/
theorem g_open {Q : Int32 → cS → Prop} {mc ms : Nat} (g : gIx S ρ dp x so sd sg made B ix mg cm pr sn op fi w cc true) (hM : ixM made ix mg cm pr sn) (hlen : (cmV cm).1.length ≤ 300) (hm : 3 * (cmV cm).1.length + 4 ≤ mc) (hs : 45 + 8 * (cmV cm).1.length + sumL (fun n => (sg n).length) (cmV cm).1 ≤ ms) (h : ∀ T ρ', evI S T ρ ρ' x → gIx T ρ' dp x so sd sg made B (cmV cm) mg cm pr sn op fi w none false → Q (nI (cmV cm).1.length) T) : k_X11_open Q dp mc ms x S := by
  obtain ⟨⟨hx, hρ, hdp⟩, gs, gb, ⟨V, e355, gv⟩, ⟨go, e357⟩, gc, gp, gl, i361, i366, i367, i368, i369, i370⟩ := id g
  unfold k_X11_open
  refine ⟨hx, fun _ => ⟨hx, fun S1 e1 => ?_⟩, fun c => ?_⟩
  · have s1 : cSub S S1 (fun z => z = x) := e1 ▸ sub_Si rfl
    refine ⟨sub_A1 s1 hx, fun S2 e2 => ?_⟩
    have s2 : cSub S S2 (fun z => z = x) := sub_tr s1 (e2 ▸ sub_Si rfl) (fun _ _ z => z)
    have r2 : ∀ q, cr S2 q x = cr S q x := fun q => hr_Si e2 (hr_Si e1 rfl)
    have i2 : ∀ q, q ≠ 369 → q ≠ 370 → ci S2 q x = ci S q x := fun q h1 h2 => hi_Si_q e2 h1 (hi_Si_q e1 h2 rfl)
    have c369 : ci S2 369 x = cIn none := hi_Si_s e2
    have c370 : ci S2 370 x = bI false := hi_Si_q e2 (by decide) (hi_Si_s e1)
    have g2 : gIx S2 ρ dp x so sd sg made B ix mg cm pr sn op fi w none false := gIx_x s2 hM g (fun q _ => r2 q) (Or.inl ⟨356, Or.inl rfl, r2 _, rfl⟩) (Or.inl ⟨358, Or.inr (Or.inl rfl), r2 _, rfl⟩) (Or.inl ⟨359, Or.inr (Or.inr rfl), r2 _, rfl⟩) ((i2 _ (by decide) (by decide)).trans e357) ((i2 _ (by decide) (by decide)).trans i361) (i2 _ (by decide) (by decide)) ((i2 _ (by decide) (by decide)).trans i367) ((i2 _ (by decide) (by decide)).trans i368) c369 c370
    have ev2 := evI_x (ρ := ρ) s2 hρ (fun q _ => r2 q)
    refine ⟨sub_A1 s2 hx, mc, ms, by omega, by omega, g_committed (τl := 9) (τh := 10) g2 hlen hm hs (fun T5 ρ5 W f5 nW gW => ?_)⟩
    obtain ⟨⟨x2, -, dp2⟩, gs2, gb2, ⟨V2, e2355, gv2⟩, ⟨go2, e2357⟩, gc2, gp2, gl2, j361, j366, j367, j368, j369, j370⟩ := id g2
    have x5 := fr_A f5 x2
    have ρx5 : ρ5 x = 1 := fr_tg f5 x2.1 hρ (by decide)
    refine ⟨x5, fun S6 e6 => ?_⟩
    have s6 : cSub T5 S6 (fun z => z = x) := e6 ▸ sub_Sr rfl
    have x6 := sub_A1 s6 x5
    have f6 : fr S2 S6 ρ ρ5 [1] := fr_x1 (fr_up f5 rfl) ρx5 (by decide) s6
    have f56 : fr T5 S6 ρ5 ρ5 [1] := ⟨sub_wk s6 (fun z _ hz => by rw [hz, ρx5]; decide), fun _ _ _ => rfl⟩
    have e355' : cr S6 355 x = some W := hr_Sr_s e6
    have r6 : ∀ q, q ≠ 355 → cr S6 q x = cr S2 q x := fun q hq => (hr_Sr_q e6 hq rfl).trans (fr_cr f5 x2 (by simp))
    have i6 : ∀ q, ci S6 q x = ci S2 q x := fun q => (hi_Sr e6 rfl).trans (fr_ci f5 x2 (by simp))
    have gs6 := gSegs_fr (fr_fk f6 (by decide)) (by decide) gs2
    have hidc : ∀ n, n ∈ (cmV cm).1 → n < made := by
      cases cm with
      | none => exact fun n hn => absurd hn List.not_mem_nil
      | some v => exact hM.2.2.1 v rfl
    have gW6 := gVw_fr f56 (by decide) (by decide) gs6 hidc gW
    refine ⟨x6, W, e355', (g_vA gW6).1, ⟨by omega, by omega⟩, g_vsize gW6 ⟨⟨by omega, by omega⟩, h S6 ρ5 (evI_tr ev2 ⟨fr_up f6 rfl, fun q hq => r6 q (fun e => hq (by rw [e]; decide)), ρx5⟩) ?_⟩⟩
    refine ⟨⟨x6, ρx5, dp_O⟩, gs6, gBf_fr f6 (by decide) (by decide) (r6 _ (by decide)) gb2, ⟨W, e355', gW6⟩, ⟨?_, (i6 _).trans e2357⟩, ?_, ?_, gSs_fr f6 (by decide) (by decide) (r6 _ (by decide)) gs6 hM.2.2.2.2 gl2, (i6 _).trans j361, (i6 _).trans j366, (i6 _).trans j367, (i6 _).trans j368, (i6 _).trans j369, (i6 _).trans j370⟩
    · rw [r6 _ (by decide)]; exact gOv_fr f6 (by decide) gs6 hM.2.1 go2
    · rw [r6 _ (by decide)]; exact gOv_fr f6 (by decide) gs6 hM.2.2.1 gc2
    · rw [r6 _ (by decide)]; exact gOv_fr f6 (by decide) gs6 hM.2.2.2.1 gp2
  · rw [i370] at c
    exact absurd c (by decide)
/-- a view gets its number -/
theorem gVw_320 {τl τh V : Nat} {ids : List Nat} {lv : Nat → Nat → Bool} {y : Int32} (e : T = cSi S 320 V y) (g : gVw S ρ dp so sd sg τl τh V ids lv) : gVw T ρ dp so sd sg τl τh V ids lv := by
  obtain ⟨hl, m, hs, ⟨g1, g2, g3, g4, g5⟩, k1, k2, k3, k4, k5⟩ := g
  have s : cSub S T (fun z => z = V) := e ▸ sub_Si rfl
  have r : ∀ q a, cr T q a = cr S q a := fun q a => by rw [e]; rfl
  refine ⟨hl, m, hs, ⟨sub_A1 s g1, (r _ _).trans g2, lsT_sub s g3 (fun z hz => ls_nk g3 hz g1 (by decide) (by decide)), g4, fun i h n hi hn => ?_⟩, k1, fun i j y z q hi hj a b => ?_, k3, fun z hz => ?_, fun y hy => ⟨(k5 y hy).1, fun q hq => ?_⟩⟩
  · obtain ⟨c1, c2, c3, q, c4⟩ := g5 i h n hi hn
    refine ⟨sgT_sub s c1 (cA_ne c1.1 g1 (by decide)) (fun b z hb hz => ?_) (fun D hD => ?_), c2, c3, q, hoT_sub s c4 (cA_ne c4.1 g1 (by decide)) (cA_ne c4.2.2.2.1 g1 (by decide))⟩
    · obtain ⟨dl, md, q1, q2⟩ := c1.2.2.2.1
      obtain rfl : dl = b := Option.some.inj (q1.symm.trans hb)
      exact ls_nk q2 hz g1 (by decide) (by decide)
    · obtain ⟨i', hi'⟩ := List.getElem?_of_mem hD
      obtain ⟨d, hd⟩ := get_ex (l := sg n) (k := i') (by have := get_lt hi'; have := c1.2.2.1; omega)
      exact cA_ne (c1.2.2.2.2 i' D d hi' hd).1 g1 (by decide)
  · rw [r] at a b; exact k2 i j y z q hi hj a b
  · unfold lsF at hz
    rw [r] at hz
    exact k4 z hz
  · rw [r] at hq; exact (k5 y hy).2 q hq
theorem parL_snoc {α β : Type} {R : α → β → Prop} {l : List α} {m : List β} {a : α} {b : β} (h : parL R l m) (hab : R a b) : parL R (l ++ [a]) (m ++ [b]) := parL_app h ⟨hab, trivial⟩
/-- a snapshot is kept -/
theorem g_look52 {Q : Int32 → cS → Prop} {mc ms cd dd V' : Nat} {v : Vw} (g : gIx S ρ dp x so sd sg made B ix mg cm pr sn op fi w cc off) (hM : ixM made ix mg cm pr sn) (f : fr S T ρ ρ' []) (hV : V' ∉ cL S) (gV : gVw T ρ' dp so sd sg 11 11 V' v.1 v.2) (hv : vwM made v) (h5 : sn.length < 5) (hm : cd + 1 ≤ mc) (hs : dd + 10 ≤ ms)
    (h : ∀ U ρ'', evI S U ρ ρ'' x → gIx U ρ'' dp x so sd sg made B ix mg cm pr (sn ++ [(op, v)]) (op + 1) fi w cc off → Q (nI op) U) : k_X11_look_52 Q dp mc ms x V' cd dd T := by
  obtain ⟨gT, eT⟩ := gIx_0 f hM g
  obtain ⟨⟨hx, hρ, hdp⟩, gs, gb, ⟨V, e355, gv⟩, ⟨go, e357⟩, gc, gp, ⟨l, ⟨sl, sm, e360, gl1, gl2, gl3⟩, gl4⟩, i361, i366, i367, i368, i369, i370⟩ := id gT
  have hx0 := g.1.1
  have hVA := (g_vA gV).1
  have hVρ := (g_vA gV).2
  have hll := parL_len gl4
  unfold k_X11_look_52
  refine ⟨hx, hVA, fun S7 e7 => ?_⟩
  rw [i361] at e7
  have s7 : cSub T S7 (fun z => z = V') := e7 ▸ sub_Si rfl
  have s07 : cSub S S7 (fun _ => False) := sub_tr (sub_wk f.1 (fun _ _ z => by simp at z)) s7 (fun a ha z => hV (z ▸ ha))
  have f07 : fr S S7 ρ ρ' [] := ⟨sub_wk s07 (fun _ _ z => z.elim), f.2⟩
  obtain ⟨g7, ev7⟩ := gIx_0 f07 hM g
  obtain ⟨⟨x7, ρ7, dp7⟩, gs7, gb7, ⟨V7, e7355, gv7⟩, ⟨go7, e7357⟩, gc7, gp7, -, j361, j366, j367, j368, j369, j370⟩ := id g7
  have gV7 := gVw_320 e7 gV
  have c320 : ci S7 320 V' = nI op := hi_Si_s e7
  have nx : ¬ x = V' := cA_ne hx hVA (by decide)
  have r7 : ∀ q a, cr S7 q a = cr T q a := fun q a => by rw [e7]; rfl
  have l7 : lsT S7 dp sl 10 l sm := lsT_sub s7 gl1 (fun z hz => ls_nk gl1 hz hVA (by decide) (by decide))
  have t7 : ∀ z, lsF S7 dp sl z → ρ' z = 14 := fun z hz => gl2 z (by unfold lsF at hz ⊢; rw [r7] at hz; exact hz)
  have sn7 : parL (fun V s => gVw S7 ρ' dp so sd sg 11 11 V s.2.1 s.2.2 ∧ ci S7 320 V = nI s.1) l sn := by
    obtain ⟨l0, k1, k2⟩ := g7.2.2.2.2.2.2.2.1
    obtain ⟨sl0, sm0, q1, q2, -⟩ := k1
    have hsl : sl0 = sl := Option.some.inj (q1.symm.trans ((r7 _ _).trans e360))
    subst hsl
    have hlE : l0 = l := by
      have hlen0 : l0.length = l.length := (parL_len k2).trans hll.symm
      refine List.ext_getElem? (fun i => ?_)
      by_cases c : i < l.length
      · obtain ⟨y, hy⟩ := get_ex c
        obtain ⟨y0, hy0⟩ := get_ex (l := l0) (k := i) (by omega)
        obtain ⟨-, -, -, -, -, -, b, hb, hbx⟩ := id l7
        obtain ⟨-, -, -, -, -, -, b0, hb0, hbx0⟩ := q2
        obtain rfl : b = b0 := Option.some.inj (hb.symm.trans hb0)
        rcases hbx with hbx | hbx
        · have := l7.2.2.1; omega
        · rcases hbx0 with hbx0 | hbx0
          · exact absurd hbx0.1 hbx.1
          · have h1 := hbx.2.2.2.2 i y hy
            have h2 := hbx0.2.2.2.2 i y0 hy0
            rw [hy, hy0, ← h1, ← h2]
      · rw [List.getElem?_eq_none (by omega), List.getElem?_eq_none (by omega)]
    subst hlE
    exact k2
  have gw : (if l.length = sm then gwL sm sm else 0) ≤ 10 ∧ (gwL sm l.length = 0 ∨ gwL sm l.length = 10) := by
    rcases gl3 with rfl | rfl
    · by_cases c : l.length = 0
      · rw [if_pos c, c]; decide
      · have := gl1.2.2.1; omega
    · have : l.length ≠ 10 := by omega
      rw [if_neg this]
      unfold gwL
      rw [if_neg this]
      exact ⟨by omega, Or.inr rfl⟩
  refine ⟨x7, sl, (r7 _ _).trans e360, l7.1, 1, 10, by omega, by omega, q_ladd dp7 l7 (by rcases gl3 with h | h <;> omega) (g_vA gV7).1 (by split <;> omega) gw.1 (fun U v' u => ?_)⟩
  obtain ⟨ρ8, hρ8⟩ : ∃ r, r = rtg S7 id ρ' 14 := ⟨_, rfl⟩
  have f8 : fr S7 U ρ' ρ8 [14] := ⟨sub_wk v'.1 (fun z _ hz => by rw [t7 z hz]; decide), fun a ha _ => by rw [hρ8]; exact rtg_o ha⟩
  have x8 := fr_A f8 x7
  have ρx8 : ρ8 x = 1 := fr_tg f8 x7.1 ρ7 (by decide)
  have nx14 : ρ' x ∉ [14] := by rw [ρ7]; decide
  have i8 : ∀ q, ci U q x = ci S7 q x := fun q => fr_ci f8 x7 nx14
  have r8 : ∀ q, cr U q x = cr S7 q x := fun q => fr_cr f8 x7 nx14
  refine ⟨x8, x8, fun S12 e12 => ?_⟩
  rw [i8, j361, nI_add] at e12
  have s12 : cSub U S12 (fun z => z = x) := e12 ▸ sub_Si rfl
  have f12 : fr U S12 ρ8 ρ8 [1] := ⟨sub_wk s12 (fun z _ hz => by rw [hz, ρx8]; decide), fun _ _ _ => rfl⟩
  have x12 := sub_A1 s12 x8
  have f712 : fr S7 S12 ρ' ρ8 [1, 14] := fr_mix (fr_up f8 rfl) (fr_up f12 rfl)
  have gs12 := gSegs_fr (fr_fk f712 (by decide)) (by decide) gs7
  have gV12 := gVw_fr f712 (by decide) (by decide) gs12 hv gV7
  have c320' : ci S12 320 V' = nI op := (gVw_ci f712 (by decide) gV7).trans c320
  have r12 : ∀ q, cr S12 q x = cr S7 q x := fun q => (hr_Si e12 rfl).trans (r8 q)
  have i12 : ∀ q, q ≠ 361 → ci S12 q x = ci S7 q x := fun q hq => (hi_Si_q e12 hq rfl).trans (i8 q)
  have l12 : lsT S12 dp sl 10 (l ++ [V']) (gwL sm l.length) := lsT_sub s12 u (fun z hz => ls_nk u hz x8 (by decide) (by decide))
  rw [c320']
  refine ⟨(g_vA gV12).1, ⟨by omega, by omega⟩, h S12 ρ8 (evI_tr ev7 ⟨fr_up f712 rfl, fun q _ => r12 q, ρx8⟩) ⟨⟨x12, ρx8, dp_O⟩, gs12, gBf_fr f712 (by decide) (by decide) (r12 _) gb7, ⟨V7, (r12 _).trans e7355, gVw_fr f712 (by decide) (by decide) gs12 hM.1 gv7⟩, ⟨?_, (i12 _ (by decide)).trans e7357⟩, ?_, ?_, ⟨l ++ [V'], ⟨sl, _, (r12 _).trans ((r7 _ _).trans e360), l12, fun z hz => ?_, gw.2⟩, parL_snoc (parL_imp2 (fun W s hs g => ⟨gVw_fr f712 (by decide) (by decide) gs12 (hM.2.2.2.2 s hs) g.1, (gVw_ci f712 (by decide) g.1).trans g.2⟩) sn7) ⟨gV12, c320'⟩⟩, hi_Si_s e12, (i12 _ (by decide)).trans j366, (i12 _ (by decide)).trans j367, (i12 _ (by decide)).trans j368, (i12 _ (by decide)).trans j369, (i12 _ (by decide)).trans j370⟩⟩
  · rw [r12]; exact gOv_fr f712 (by decide) gs12 hM.2.1 go7
  · rw [r12]; exact gOv_fr f712 (by decide) gs12 hM.2.2.1 gc7
  · rw [r12]; exact gOv_fr f712 (by decide) gs12 hM.2.2.2.1 gp7
  · have hz' : lsF U dp sl z := by
      unfold lsF at hz ⊢
      rw [show cr S12 385 sl = cr U 385 sl from by rw [e12]; rfl] at hz; exact hz
    rw [hρ8]
    rcases v'.2 z hz' with y | y
    · exact (rtg_o (lsF_in l7 y)).trans (t7 z y)
    · exact rtg_n y
theorem g_look {Q : Int32 → cS → Prop} {mc ms : Nat} {b : Bool} (g : gIx S ρ dp x so sd sg made B ix mg cm pr sn op fi w cc false) (hM : ixM made ix mg cm pr sn) (h5 : sn.length < 5) (hl1 : (cmV cm).1.length ≤ 300) (hl2 : ix.1.length ≤ 300) (hm1 : 3 * (cmV cm).1.length + 5 ≤ mc) (hm2 : 3 * ix.1.length + 5 ≤ mc) (hs1 : 55 + 8 * (cmV cm).1.length + sumL (fun n => (sg n).length) (cmV cm).1 ≤ ms) (hs2 : 55 + 8 * ix.1.length + sumL (fun n => (sg n).length) ix.1 ≤ ms)
    (h : ∀ U ρ'', evI S U ρ ρ'' x → gIx U ρ'' dp x so sd sg made B ix mg cm pr (sn ++ [(op, if b = true then ix else cmV cm)]) (op + 1) fi w cc false → Q (nI op) U) : k_X11_look Q dp mc ms x (bI b) S := by
  obtain ⟨⟨hx, hρ, hdp⟩, gs, gb, ⟨V, e355, gv⟩, ⟨go, e357⟩, gc, gp, ⟨l, ⟨sl, sm, e360, gl1, gl2, gl3⟩, gl4⟩, i361, i366, i367, i368, i369, i370⟩ := id g
  have hll := parL_len gl4
  unfold k_X11_look
  refine ⟨hx, ⟨by omega, by omega⟩, q_checkUp hx i370 ⟨hx, sl, e360, gl1.1, ⟨by omega, by omega⟩, q_lsize gl1 (pk_lt l.length 5 (fun _ => ?_) (fun z => absurd z (by omega)))⟩⟩
  have allE : (ix.1.drop 0).take ix.1.length = ix.1 := by rw [List.drop_zero, List.take_length]
  refine w_b0 b (fun e => ⟨hx, 3 * (cmV cm).1.length + 4, 45 + 8 * (cmV cm).1.length + sumL (fun n => (sg n).length) (cmV cm).1, by omega, by omega, ?_⟩) (fun e => ⟨hx, V, e355, hx, V, e355, (g_vA gv).1, ⟨by omega, by omega⟩, g_vsize gv ⟨(g_vA gv).1, 3 * ix.1.length + 4, 45 + 8 * ix.1.length + sumL (fun n => (sg n).length) ix.1, by omega, by omega, ?_⟩⟩)
  · subst e
    refine g_committed (τl := 11) (τh := 11) g hl1 (Nat.le_refl _) (Nat.le_refl _) (fun T ρ' V' f nV gV => g_look52 (v := cmV cm) g hM f nV gV ?_ h5 (by omega) (by omega) (fun U ρ'' ev gU => h U ρ'' ev gU))
    cases cm with
    | none => exact fun n hn => absurd hn List.not_mem_nil
    | some v => exact hM.2.2.1 v rfl
  · subst e
    refine g_vcopy (τl' := 11) (τh' := 11) gv hdp (by omega) hl2 (Nat.le_refl _) (by rw [allE]; exact Nat.le_refl _) (fun T ρ' V' f nV gV => ?_)
    rw [allE] at gV
    exact g_look52 (v := ix) g hM f nV gV hM.1 h5 (by omega) (by omega) (fun U ρ'' ev gU => h U ρ'' ev gU)
/-- a snapshot is looked for -/
theorem g_snapOf {Q : Nat → cS → Prop} {y : Int32} (g : gIx S ρ dp x so sd sg made B ix mg cm pr sn op fi w cc off) (hex : ∃ s, s ∈ sn ∧ nI s.1 = y) (h : ∀ (l : List Nat) (i V : Nat) (s : Nat × Vw), gSn S ρ dp x l → parL (fun V s => gVw S ρ dp so sd sg 11 11 V s.2.1 s.2.2 ∧ ci S 320 V = nI s.1) l sn → l[i]? = some V → sn[i]? = some s → nI s.1 = y → gVw S ρ dp so sd sg 11 11 V s.2.1 s.2.2 → Q V S) : k_X11_snapshotOf Q dp x y S := by
  obtain ⟨⟨hx, hρ, hdp⟩, gs, gb, ⟨V, e355, gv⟩, ⟨go, e357⟩, gc, gp, ⟨l, ⟨sl, sm, e360, gl1, gl2, gl3⟩, gl4⟩, ii⟩ := id g
  have hll := parL_len gl4
  have hl8 : l.length < 8000 := by have := gl1.2.2.1; have := gl1.2.2.2.1; omega
  unfold k_X11_snapshotOf k_X11_snapshotOf_2L
  refine lfp_cnt l.length (fun k z => (∀ (j : Nat) (s : Nat × Vw), j < k → sn[j]? = some s → nI s.1 ≠ y) ∧ z = (x, y, nI k, S)) ?_ ⟨fun j s hj => absurd hj (Nat.not_lt_zero j), rfl⟩
  rintro P k _ hk ⟨hno, rfl⟩ ih
  show k_X11_snapshotOf_2 Q dp _ x y (nI k) S
  unfold k_X11_snapshotOf_2
  refine ⟨hx, sl, e360, gl1.1, q_lsize gl1 (pk_le l.length k (fun z => ?_) (fun z => ?_))⟩
  · obtain ⟨s, hs, e⟩ := hex
    obtain ⟨j, hj⟩ := List.getElem?_of_mem hs
    exact hno j s (by have := get_lt hj; omega) hj e
  · obtain ⟨W, hW⟩ := get_ex z
    obtain ⟨s, hs⟩ := get_ex (l := sn) (k := k) (by omega)
    obtain ⟨gW, c320⟩ := parL_get gl4 hW hs
    have WA := (g_vA gW).1
    refine ⟨hx, sl, e360, gl1.1, q_lget gl1 hW ⟨WA, WA, ?_⟩⟩
    rw [c320]
    refine ⟨fun e => ?_, fun e => ⟨hx, sl, e360, gl1.1, q_lget gl1 hW ⟨WA, h l k W s ⟨sl, sm, e360, gl1, gl2, gl3⟩ gl4 hW hs e gW⟩⟩⟩
    rintro _ rfl
    rw [nI_add]
    refine ih _ z ⟨fun j t hj ht => ?_, rfl⟩
    rcases Nat.lt_or_ge j k with q | q
    · exact hno j t q ht
    · obtain rfl : j = k := by omega
      obtain rfl : s = t := Option.some.inj (hs.symm.trans ht)
      exact e
theorem x_snapOf {Q : cS → Prop} {y : Int32} {mc ms : Nat} (g : gIx S ρ dp x so sd sg made B ix mg cm pr sn op fi w cc off) (hno : ∀ s, s ∈ sn → nI s.1 ≠ y) (hm : 1 ≤ mc) (hs : 6 ≤ ms) (h : Q S) : kx_X11_snapshotOf "java/lang/IndexOutOfBoundsException" Q dp mc ms x y S := by
  obtain ⟨⟨hx, hρ, hdp⟩, gs, gb, ⟨V, e355, gv⟩, ⟨go, e357⟩, gc, gp, ⟨l, ⟨sl, sm, e360, gl1, gl2, gl3⟩, gl4⟩, ii⟩ := id g
  have hll := parL_len gl4
  have hl8 : l.length < 8000 := by have := gl1.2.2.1; have := gl1.2.2.2.1; omega
  unfold kx_X11_snapshotOf kx_X11_snapshotOf_2L
  refine lfp_cnt l.length (fun k z => z = (x, y, nI k, 0, 0, S)) ?_ rfl
  rintro P k _ hk rfl ih
  show kx_X11_snapshotOf_2 _ Q dp mc ms _ x y (nI k) 0 0 S
  unfold kx_X11_snapshotOf_2
  refine ⟨hx, sl, e360, gl1.1, ⟨by omega, by omega⟩, q_lsize gl1 (pk_le l.length k (fun z => ⟨rfl, ⟨by omega, by omega⟩, h⟩) (fun z => ?_))⟩
  obtain ⟨W, hW⟩ := get_ex z
  obtain ⟨s, hs'⟩ := get_ex (l := sn) (k := k) (by omega)
  obtain ⟨gW, c320⟩ := parL_get gl4 hW hs'
  have WA := (g_vA gW).1
  refine ⟨hx, sl, e360, gl1.1, ⟨by omega, by omega⟩, q_lget gl1 hW ⟨WA, WA, ?_⟩⟩
  rw [c320]
  refine ⟨fun e => ?_, fun e => absurd e (hno s (List.mem_of_getElem? hs'))⟩
  rintro _ rfl
  rw [nI_add]
  exact ih _ z rfl
theorem g_documents {Q : Int32 → cS → Prop} {y : Int32} (g : gIx S ρ dp x so sd sg made B ix mg cm pr sn op fi w cc off) (hex : ∃ s, s ∈ sn ∧ nI s.1 = y) (h : ∀ s, s ∈ sn → nI s.1 = y → Q (nI (sumL (fun n => cntB (s.2.2 n) (sg n).length) s.2.1)) S) : k_X11_documents Q dp x y S := by
  unfold k_X11_documents
  exact ⟨g.1.1, g_snapOf g hex (fun l i V s _ _ _ hs e gV => ⟨(g_vA gV).1, g_vlive gV (h s (List.mem_of_getElem? hs) e)⟩)⟩
end OO
