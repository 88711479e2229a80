/-! the class: steps, commits -/
theorem cIn_s {cc : Option Nat} {j : Nat} (k : Nat) : cIn (cc.map (fun k => k - j)) = cIn (cc.map (fun k => k - j)) := rfl
section OW
variable {S T : cS} {ρ ρ' : Nat → Nat} {dp x fd made : Nat} {so : Nat → Nat} {sd : Nat → List Nat} {sg : Nat → List Dc} {B : List Dc} {ix : Vw} {mg : Option (Vw × Nat)} {cm pr : Option Vw} {sn : List (Nat × Vw)} {op fi w : Nat} {cc : Option Nat} {off : Bool}
/-- the finder is there -/
def gFd (S : cS) (ρ : Nat → Nat) (x fd : Nat) : Prop := cr S 365 x = some fd ∧ cA S fd 1 ∧ ρ fd = 21
theorem ssM_nil {m : Nat} : ssM m [] := fun s hs => absurd hs List.not_mem_nil
/-- the machine is DOWN -/
theorem dn_gIx {w' : Nat} (g : gIx S ρ dp x so sd sg made B ix mg cm pr sn op fi w cc off) (hM : ixM made ix mg cm pr sn) (d : dnT S T ρ ρ' dp so sd sg x fd w') : gIx T ρ' dp x so sd sg made [] ([], ix.2) none cm none [] op fi w' none true := by
  obtain ⟨⟨hx, hρ, hdp⟩, gs, gb, ⟨V, e355, gv⟩, ⟨go, e357⟩, gc, gp, gl, i361, i366, i367, i368, i369, i370⟩ := g
  obtain ⟨f, d1, d2, ⟨W, d3, d4⟩, ⟨d5, d6⟩, ⟨d7, d8, d9, d10⟩, di, dr, ⟨d11, d12⟩, -⟩ := d
  have gs' := gSegs_fr (fr_fk f (by decide)) (by decide) gs
  refine ⟨⟨fr_A f hx, d11, dp_O⟩, gs', d1, ⟨W, d3, d4 _⟩, ⟨by rw [d5]; trivial, d7⟩, ?_, by rw [d6]; trivial, ⟨[], d2, trivial⟩, (di _ (by decide)).trans i361, (di _ (by decide)).trans i366, (di _ (by decide)).trans i367, d8, d9, d10⟩
  rw [dr _ (by decide)]; exact gOv_fr f (by decide) gs' hM.2.2.1 gc
/-- j writes were done -/
theorem wr_gIx {j : Nat} (g : gIx S ρ dp x so sd sg made B ix mg cm pr sn op fi w cc off) (hM : ixM made ix mg cm pr sn) (h : wrT S T ρ x w cc j) : gIx T ρ dp x so sd sg made B ix mg cm pr sn op fi (w + j) (cc.map (fun k => k - j)) off ∧ evI S T ρ ρ x := by
  obtain ⟨⟨hx, hρ, hdp⟩, gs, gb, ⟨V, e355, gv⟩, ⟨go, e357⟩, gc, gp, gl, i361, i366, i367, i368, i369, i370⟩ := g
  obtain ⟨f, wi, wr, w1, w2, -⟩ := h
  have gs' := gSegs_fr (fr_fk f (by decide)) (by decide) gs
  refine ⟨⟨⟨fr_A f hx, hρ, dp_O⟩, gs', gBf_fr f (by decide) (by decide) (wr _) gb, ⟨V, (wr _).trans e355, gVw_fr f (by decide) (by decide) gs' hM.1 gv⟩, ⟨?_, (wi _ (by decide)).trans e357⟩, ?_, ?_, gSs_fr f (by decide) (by decide) (wr _) gs' hM.2.2.2.2 gl, (wi _ (by decide)).trans i361, (wi _ (by decide)).trans i366, (wi _ (by decide)).trans i367, w1, w2, (wi _ (by decide)).trans i370⟩, fr_up f rfl, fun q _ => wr q, hρ⟩
  · rw [wr]; exact gOv_fr f (by decide) gs' hM.2.1 go
  · rw [wr]; exact gOv_fr f (by decide) gs' hM.2.2.1 gc
  · rw [wr]; exact gOv_fr f (by decide) gs' hM.2.2.2.1 gp
/-- a write from outside -/
theorem g_write {Q : Int32 → cS → Prop} {mc ms j : Nat} (g : gIx S ρ dp x so sd sg made B ix mg cm pr sn op fi w cc off) (hF : gFd S ρ x fd) (hcc : ∀ k, cc = some k → k ≤ 1000) (hT : wrT S T ρ x w cc j) (hm : cc = some j → 2 ≤ mc) (hs : cc = some j → 5 ≤ ms) (h1 : ∀ U, (∀ k, cc = some k → j < k) → wrT S U ρ x w cc (j + 1) → Q (bI true) U) (h2 : ∀ U ρ', cc = some j → dnT S U ρ ρ' dp so sd sg x fd (w + j) → Q (bI false) U) : k_X11_doWrite Q dp mc ms x T := by
  obtain ⟨⟨hx, hρ, hdp⟩, gs, gb, ⟨V, e355, gv⟩, ⟨go, e357⟩, gc, gp, ⟨l, gn, gl⟩, i361, i366, i367, i368, i369, i370⟩ := g
  exact g_doWrite hx hρ gb gn hF.1 hF.2.1 hF.2.2 hdp hT hcc hm hs h1 h2
theorem gIx_wr0 (g : gIx S ρ dp x so sd sg made B ix mg cm pr sn op fi w cc off) : wrT S S ρ x w cc 0 := by
  obtain ⟨-, -, -, -, -, -, -, -, i361, i366, i367, i368, i369, i370⟩ := g
  exact wrT_0 i368 i369
theorem g_finish {Q : Int32 → cS → Prop} {mc ms : Nat} {v : Vw} (g : gIx S ρ dp x so sd sg made B ix mg cm (some v) sn op fi w cc false) (hM : ixM made ix mg cm (some v) sn) (hF : gFd S ρ x fd) (hcc : ∀ k, cc = some k → k ≤ 1000) (hm : 2 ≤ mc) (hs : 5 ≤ ms)
    (h1 : ∀ T, cc ≠ some 0 → evI S T ρ ρ x → gIx T ρ dp x so sd sg made B ix mg (some v) none sn op (fi + 1) (w + 1) (cc.map (fun k => k - 1)) false → Q (nI (fi + 1)) T)
    (h2 : ∀ U ρ', cc = some 0 → dnT S U ρ ρ' dp so sd sg x fd w → Q (-2) U) : k_X11_finish Q dp mc ms x S := by
  obtain ⟨⟨hx, hρ, hdp⟩, gs, gb, ⟨V, e355, gv⟩, ⟨go, e357⟩, gc, gp, gl, i361, i366, i367, i368, i369, i370⟩ := id g
  obtain ⟨W, e359, gw⟩ := ov_some gp
  unfold k_X11_finish
  refine ⟨hx, ⟨by omega, by omega⟩, q_checkUp hx i370 ⟨hx, fun c => absurd (e359.symm.trans c) (by simp), fun b hb => ⟨hx, 2, 5, by omega, by omega, g_write g hF hcc (gIx_wr0 g) (fun _ => Nat.le_refl _) (fun _ => Nat.le_refl _) (fun U hlt hU => ⟨fun _ => ?_, fun c => absurd c (by decide)⟩) (fun U ρ' hc hU => ⟨fun c => absurd rfl c, fun _ => ⟨⟨by omega, by omega⟩, h2 U ρ' hc hU⟩⟩)⟩⟩⟩
  obtain rfl : W = b := Option.some.inj (e359.symm.trans hb)
  obtain ⟨gU, eU⟩ := wr_gIx g hM hU
  obtain ⟨⟨xU, -, -⟩, -, -, -, ⟨-, u357⟩, -, -, -, u361, u366, u367, u368, u369, u370⟩ := id gU
  have rU := hU.2.2.1
  refine ⟨xU, fun S6 e6 => ?_⟩
  have s6 : cSub U S6 (fun z => z = x) := e6 ▸ sub_Sr rfl
  have x6 := sub_A1 s6 xU
  refine ⟨x6, fun S7 e7 => ?_⟩
  have s7 : cSub U S7 (fun z => z = x) := sub_tr s6 (e7 ▸ sub_Sr rfl) (fun _ _ z => z)
  have x7 := sub_A1 s7 xU
  have c367 : ci S7 367 x = nI fi := (hi_Sr e7 (hi_Sr e6 rfl)).trans u367
  refine ⟨x7, x7, fun S8 e8 => ?_⟩
  rw [c367, nI_add] at e8
  have s8 : cSub U S8 (fun z => z = x) := sub_tr s7 (e8 ▸ sub_Si rfl) (fun _ _ z => z)
  have c8 : ci S8 367 x = nI (fi + 1) := hi_Si_s e8
  have r8 : ∀ q, q ≠ 358 → q ≠ 359 → cr S8 q x = cr U q x := fun q h1 h2 => hr_Si e8 (hr_Sr_q e7 h2 (hr_Sr_q e6 h1 rfl))
  have i8 : ∀ q, q ≠ 367 → ci S8 q x = ci U q x := fun q hq => hi_Si_q e8 hq (hi_Sr e7 (hi_Sr e6 rfl))
  rw [c8]
  have r8q : ∀ q, q ∉ [358, 359] → cr S8 q x = cr U q x := fun q hq => r8 q (fun e => hq (by rw [e]; decide)) (fun e => hq (by rw [e]; decide))
  have hne : cc ≠ some 0 := fun e => absurd (hlt 0 e) (Nat.lt_irrefl 0)
  refine ⟨sub_A1 s8 xU, ⟨by omega, by omega⟩, h1 S8 hne ?_ ?_⟩
  · obtain ⟨a1, a2, a3⟩ := evI_x (ρ := ρ) s8 hρ (fun q hq => r8q q (fun e => hq (by revert e; simp; omega)))
    exact ⟨fr_mix eU.1 a1, fun q hq => (a2 q hq).trans (eU.2.1 q hq), hρ⟩
  · refine gIx_x s8 hM gU (fun q hq => r8q q (fun e => by revert e hq; simp; omega)) (Or.inl ⟨356, Or.inl rfl, r8 _ (by decide) (by decide), rfl⟩) (Or.inl ⟨359, Or.inr (Or.inr rfl), ?_, rfl⟩) (Or.inr ⟨hr_Si e8 (hr_Sr_s e7), rfl⟩) ((i8 _ (by decide)).trans u357) ((i8 _ (by decide)).trans u361) (i8 _ (by decide)) c8 ((i8 _ (by decide)).trans u368) ((i8 _ (by decide)).trans u369) ((i8 _ (by decide)).trans u370)
    rw [rU, e359]
    exact hr_Si e8 (hr_Sr_q e7 (by decide) (hr_Sr_s e6))
/-- the buffer is flushed -/
theorem g_flushI {Q : Int32 → cS → Prop} {mc ms : Nat} (g : gIx S ρ dp x so sd sg made B ix mg cm pr sn op fi w cc false) (hM : ixM made ix mg cm pr sn) (hF : gFd S ρ x fd) (hcc : ∀ k, cc = some k → k ≤ 1000) (hmade : made < 900) (hlen : ix.1.length ≤ 300) (hm : 610 * B.length + 30 ≤ mc) (hs : 7000 * B.length + 1200 ≤ ms)
    (h1 : ∀ T ρ' A ds, (∀ k, cc = some k → B.length + 1 ≤ k) → evI S T ρ ρ' x → gIx T ρ' dp x (upR so made A) (upR sd made ds) (upR sg made B) (made + 1) [] (ix.1 ++ [made], fun n j => if n = made then true else ix.2 n j) mg cm pr sn op fi (w + (B.length + 1)) (cc.map (fun k => k - (B.length + 1))) false → Q (nI made) T)
    (h2 : ∀ U ρ' j, j ≤ B.length → cc = some j → dnT S U ρ ρ' dp so sd sg x fd (w + j) → Q (-2) U) : k_X11_flushBuffer Q dp mc ms x S := by
  obtain ⟨⟨hx, hρ, hdp⟩, gs, gb, ⟨V, e355, gv⟩, ⟨go, e357⟩, gc, gp, ⟨l, gn, gl⟩, i361, i366, i367, i368, i369, i370⟩ := id g
  refine g_flush hx hρ gb gn hF.1 hF.2.1 hF.2.2 hdp i368 i369 hcc i366 hmade e355 gs gv hM.1 hlen hm hs (fun T ρ' A ds hk f gs' gv' gb' a1 a2 a3 ai ar ax => ?_) h2
  have he : ∀ m, m < made → upR so made A m = so m ∧ upR sd made ds m = sd m ∧ upR sg made B m = sg m := fun m hm => ⟨up_ext hm, up_ext hm, up_ext hm⟩
  have lift : ∀ {w : Vw}, vwM made w → vwM (made + 1) w := fun h n hn => by have := h n hn; omega
  have oE : ∀ {o : Option Nat} {w : Option Vw}, ovM made w → gOv S ρ dp so sd sg o w → gOv T ρ' dp (upR so made A) (upR sd made ds) (upR sg made B) o w := fun hw g => gOv_fr f (by decide) gs' (fun w e => lift (hw w e)) (gOv_ext he hw g)
  refine h1 T ρ' A ds hk ⟨fr_up f rfl, fun q _ => ar q, ax⟩ ⟨⟨fr_A f hx, ax, dp_O⟩, gs', gb', ⟨V, (ar _).trans e355, gv'⟩, ⟨?_, (ai _ (by decide)).trans e357⟩, ?_, ?_, gSs_fr f (by decide) (by decide) (ar _) gs' (fun s hs => lift (hM.2.2.2.2 s hs)) (gSs_ext he hM.2.2.2.2 ⟨l, gn, gl⟩), (ai _ (by decide)).trans i361, a1, (ai _ (by decide)).trans i367, a2, a3, (ai _ (by decide)).trans i370⟩
  · rw [ar]; exact oE hM.2.1 go
  · rw [ar]; exact oE hM.2.2.1 gc
  · rw [ar]; exact oE hM.2.2.2.1 gp
theorem g_flushO {Q : Int32 → cS → Prop} {mc ms : Nat} (g : gIx S ρ dp x so sd sg made B ix mg cm pr sn op fi w cc false) (hM : ixM made ix mg cm pr sn) (hF : gFd S ρ x fd) (hcc : ∀ k, cc = some k → k ≤ 1000) (hmade : made < 200) (hlen : ix.1.length ≤ 300) (hm : 610 * B.length + 30 ≤ mc) (hs : 7000 * B.length + 1200 ≤ ms) (h0 : B = [] → Q (-1) S)
    (h1 : ∀ T ρ' A ds, B ≠ [] → (∀ k, cc = some k → B.length + 1 ≤ k) → evI S T ρ ρ' x → gIx T ρ' dp x (upR so made A) (upR sd made ds) (upR sg made B) (made + 1) [] (ix.1 ++ [made], fun n j => if n = made then true else ix.2 n j) mg cm pr sn op fi (w + (B.length + 1)) (cc.map (fun k => k - (B.length + 1))) false → Q (nI made) T)
    (h2 : ∀ U ρ' j, B ≠ [] → j ≤ B.length → cc = some j → dnT S U ρ ρ' dp so sd sg x fd (w + j) → Q (-2) U) : k_X11_flush Q dp mc ms x S := by
  obtain ⟨⟨hx, hρ, hdp⟩, gs, ⟨b, bs, bm, b1, b2, b3, b4, b5, b6, b7⟩, ⟨V, e355, gv⟩, ⟨go, e357⟩, gc, gp, gl, i361, i366, i367, i368, i369, i370⟩ := id g
  unfold k_X11_flush
  refine ⟨hx, ⟨by omega, by omega⟩, q_checkUp hx i370 ⟨hx, fun _ => ⟨hx, b, b1, b2.1, ⟨by omega, by omega⟩, q_lempty b2 (w_b0 (bs.length == 0) (fun e => ⟨hx, mc, ms, by omega, by omega, ?_⟩) (fun e => ⟨⟨by omega, by omega⟩, h0 (List.eq_nil_of_length_eq_zero (by have := beq_iff_eq.mp e; omega))⟩))⟩, fun c => absurd ((nI_ltI (by omega) (by decide)).mpr hmade) (by rw [i366] at c; exact c)⟩⟩
  have hB : B ≠ [] := fun e' => by
    have := beq_eq_false_iff_ne.mp e
    rw [b5, e'] at this; exact this rfl
  exact g_flushI g hM hF hcc (by omega) hlen hm hs (fun T ρ' A ds hk ev gT => ⟨⟨by omega, by omega⟩, h1 T ρ' A ds hB hk ev gT⟩) (fun U ρ' j hj hc d => ⟨⟨by omega, by omega⟩, h2 U ρ' j hB hj hc d⟩)
end OW
