/-! the class: a step of a merge; a commit is prepared -/
/-- down, seen from before -/
def evD (S T : cS) (ρ ρ' : Nat → Nat) (x fd : Nat) : Prop := fr S T ρ ρ' [1, 7, 9, 10, 14, 21, 81, 82, 83, 84, 85] ∧ (∀ q, q ∉ [354, 355, 356, 357, 358, 359, 360, 361] → cr T q x = cr S q x) ∧ (ρ' x = 1 ∧ ρ' fd = 21) ∧ (ci T 33 fd = nI 0 ∧ ci T 36 fd = nI 0 ∧ ci T 37 fd = nI 0 ∧ ci T 38 fd = nI 0) ∧ (∀ q, q ∉ [33, 36, 37, 38] → ci T q fd = ci S q fd) ∧ ∀ q, cr T q fd = cr S q fd
/-- the buffer flushed -/
def flS (made : Nat) (sg : Nat → List Dc) (B : List Dc) (ix : Vw) (w : Nat) (cc : Option Nat) : Nat × (Nat → List Dc) × Vw × Nat × Option Nat := match B with
  | [] => (made, sg, ix, w, cc)
  | d :: B => (made + 1, upR sg made (d :: B), (ix.1 ++ [made], fun n j => if n = made then true else ix.2 n j), w + ((d :: B).length + 1), cc.map (fun k => k - ((d :: B).length + 1)))
/-- how many segments have changed -/
def chN (sg : Nat → List Dc) (ix : Vw) (cm : Option Vw) : Nat := sumL (fun n => if chB sg ix.2 cm n = true then 1 else 0) ix.1
theorem chN_le (sg : Nat → List Dc) (ix : Vw) (cm : Option Vw) : chN sg ix cm ≤ ix.1.length := by
  unfold chN
  induction ix.1 with
  | nil => exact Nat.le_refl _
  | cons n l ih =>
    rw [sumL, List.length_cons]
    split <;> omega
section OP2
variable {S T U : cS} {ρ ρ' ρ'' : Nat → Nat} {dp x fd made : Nat} {so : Nat → Nat} {sd : Nat → List Nat} {sg : Nat → List Dc} {B : List Dc} {ix : Vw} {mg : Option (Vw × Nat)} {cm pr : Option Vw} {sn : List (Nat × Vw)} {op fi w : Nat} {cc : Option Nat} {off : Bool}
theorem dn_ev {w' : Nat} (d : dnT S U ρ ρ' dp so sd sg x fd w') : evD S U ρ ρ' x fd := by
  obtain ⟨f, d1, d2, -, -, -, di, dr, d11, d12, d13, d14⟩ := d
  exact ⟨fr_up f rfl, fun q hq => dr q (fun e => hq (by revert e; simp; omega)), d11, d12, d13, d14⟩
theorem evI_fd (h : evI S T ρ ρ' x) (hx : cA S x 11) (hρ : ρ x = 1) (hF : gFd S ρ x fd) : gFd T ρ' x fd ∧ (∀ q, ci T q fd = ci S q fd) ∧ ∀ q, cr T q fd = cr S q fd := by
  obtain ⟨f, r, -⟩ := h
  obtain ⟨h1, h2, h3⟩ := hF
  have nf : ρ fd ∉ [1, 7, 9, 10, 14, 81, 82, 83, 84, 85] := by rw [h3]; decide
  exact ⟨⟨(r _ (by decide)).trans h1, fr_A f h2, fr_tg f h2.1 h3 (by decide)⟩, fun q => fr_ci f h2 nf, fun q => fr_cr f h2 nf⟩
theorem evI_D (h : evI S T ρ ρ' x) (hx : cA S x 11) (hρ : ρ x = 1) (hF : gFd S ρ x fd) (d : evD T U ρ' ρ'' x fd) : evD S U ρ ρ'' x fd := by
  obtain ⟨-, k2, k3⟩ := evI_fd h hx hρ hF
  obtain ⟨f, r, a⟩ := h
  obtain ⟨d1, d2, d3, d4, d5, d6⟩ := d
  exact ⟨fr_mix (fr_up f rfl) d1, fun q hq => (d2 q hq).trans (r q hq), d3, d4, fun q hq => (d5 q hq).trans (k2 q), fun q => (d6 q).trans (k3 q)⟩
theorem evI_tr (h : evI S T ρ ρ' x) (g : evI T U ρ' ρ'' x) : evI S U ρ ρ'' x := ⟨fr_mix h.1 g.1, fun q hq => (g.2.1 q hq).trans (h.2.1 q hq), g.2.2⟩
theorem ov_vwO {o : Option Nat} {v : Option Vw} (g : gOv S ρ dp so sd sg o v) : vwO S dp so sd sg o v := by
  cases o with
  | none => cases v with
    | none => trivial
    | some v => exact absurd g id
  | some V => cases v with
    | none => exact absurd g id
    | some v =>
      obtain ⟨hl, m, hs, g1, -⟩ := g
      exact ⟨hl, m, hs, g1⟩
set_option maxRecDepth 100000 in
theorem g_step {Q : Int32 → cS → Prop} {mc ms c p : Nat} {src : Vw} {L Ld : List Dc} (g : gIx S ρ dp x so sd sg made B ix (some (src, c)) cm pr sn op fi w cc false) (hM : ixM made ix (some (src, c)) cm pr sn) (hF : gFd S ρ x fd) (hcc : ∀ k, cc = some k → k ≤ 1000) (hmade : made < 900) (hnd : ix.1.Nodup) (hlen : ix.1.length ≤ 300) (hsrc : ∀ (j n : Nat), src.1[j]? = some n → ix.1[p + j]? = some n) (hs3 : src.1.length = 3) (hp : p + 3 ≤ ix.1.length) (hL : L = src.1.flatMap (fun n => selA (src.2 n) 0 (sg n))) (hLd : Ld = src.1.flatMap (fun n => selA (fun j => src.2 n j && !ix.2 n j) 0 (sg n))) (hkd : ∀ (i j : Nat) (d e : Dc), L[i]? = some d → L[j]? = some e → dK d = dK e → i = j) (hK : L.length ≤ 100) (hc : c ≤ L.length) (hm : 610 * c + 310 ≤ mc) (hs : 7000 * c + 6010 ≤ ms)
    (h1 : ∀ T, cc ≠ some 0 → c < L.length → evI S T ρ ρ x → gIx T ρ dp x so sd sg made B ix (some (src, c + 1)) cm pr sn op fi (w + 1) (cc.map (fun k => k - 1)) false → Q (nI (L.length - (c + 1))) T)
    (h2 : ∀ T ρ', cc ≠ some 0 → c = L.length → L = [] → evI S T ρ ρ' x → gIx T ρ' dp x so sd sg made B (ix.1.take p ++ ix.1.drop (p + 3), ix.2) none cm pr sn op fi (w + 1) (cc.map (fun k => k - 1)) false → Q (-1) T)
    (h3 : ∀ T ρ' A ds, cc ≠ some 0 → c = L.length → L ≠ [] → evI S T ρ ρ' x → gIx T ρ' dp x (upR so made A) (upR sd made ds) (upR sg made L) (made + 1) B (ix.1.take p ++ made :: ix.1.drop (p + 3), fun n j => if n = made then mvF L (Ld.map dK) j else ix.2 n j) none cm pr sn op fi (w + 1) (cc.map (fun k => k - 1)) false → Q (-1) T)
    (h4 : ∀ U ρ', cc = some 0 → evD S U ρ ρ' x fd → gIx U ρ' dp x so sd sg made [] ([], ix.2) none cm none [] op fi w none true → Q (-2) U) : k_X11_step Q dp mc ms x S := by
  obtain ⟨⟨hx, hρ, hdp⟩, gs, gb, ⟨V, e355, gv⟩, ⟨go, e357⟩, gc, gp, gl, i361, i366, i367, i368, i369, i370⟩ := id g
  obtain ⟨W, e356, gw⟩ := ov_some go
  unfold k_X11_step
  refine ⟨hx, ⟨by omega, by omega⟩, q_checkUp hx i370 ⟨hx, fun c => absurd (e356.symm.trans c) (by simp), fun b hb => ⟨hx, 2, 5, by omega, by omega, g_write g hF hcc (gIx_wr0 g) (fun _ => Nat.le_refl _) (fun _ => Nat.le_refl _) (fun U hlt hU => ⟨fun _ => ?_, fun c => absurd c (by decide)⟩) (fun U ρ' hc hU => ⟨fun c => absurd rfl c, fun _ => ⟨⟨by omega, by omega⟩, h4 U ρ' hc (dn_ev hU) (dn_gIx g hM hU)⟩⟩)⟩⟩⟩
  obtain rfl : W = b := Option.some.inj (e356.symm.trans hb)
  have hne : cc ≠ some 0 := fun e => absurd (hlt 0 e) (Nat.lt_irrefl 0)
  obtain ⟨gU, eU⟩ := wr_gIx g hM hU
  obtain ⟨⟨xU, -, dpU⟩, gsU, gbU, ⟨V', eV', gvU⟩, ⟨goU, u357⟩, gcU, gpU, glU, u361, u366, u367, u368, u369, u370⟩ := id gU
  have rU := hU.2.2.1
  obtain ⟨W', eW', gwU⟩ := ov_some goU
  obtain rfl : W = W' := Option.some.inj ((e356.symm.trans (rU 356).symm).trans eW')
  have hsum : sumL (fun n => cntB (src.2 n) (sg n).length) src.1 = L.length := by
    rw [hL]
    have : ∀ l : List Nat, sumL (fun n => cntB (src.2 n) (sg n).length) l = (l.flatMap (fun n => selA (src.2 n) 0 (sg n))).length := by
      intro l
      induction l with
      | nil => rfl
      | cons n l ih =>
        have h2 := selA_len (f := src.2 n) (l := sg n) (k := (sg n).length) (Nat.le_refl _)
        rw [List.take_length] at h2
        rw [List.flatMap_cons, List.length_append, sumL, ih, h2]
    exact this _
  refine ⟨(g_vA gwU).1, ⟨by omega, by omega⟩, g_vlive gwU ?_⟩
  rw [hsum, u357]
  clear hsum
  show _ ∧ (((nI L.length ≤ nI c) → _) ∧ _)
  refine ⟨xU, pk_le L.length c (fun z => ?_) (fun z => ?_)⟩
  · obtain rfl : c = L.length := by omega
    refine ⟨xU, 610 * L.length + 300, 7000 * L.length + 6000, by omega, by omega, ?_⟩
    refine g_endMerge xU hρ dpU u366 hmade eV' gsU gvU hM.1 hnd hlen gwU hsrc hs3 hp hL hLd hkd hK (Nat.le_refl _) (Nat.le_refl _) (fun T ρ' hL0 f gsT gvT t1 t2 ti tr tx => ⟨⟨by omega, by omega⟩, ?_⟩) (fun T ρ' A ds hL1 f gsT gvT t1 t2 t366 ti tr tx => ⟨⟨by omega, by omega⟩, ?_⟩)
    · have e2 : evI U T ρ ρ' x := ⟨fr_up f rfl, fun q hq => tr q (fun e => hq (by rw [e]; decide)), tx⟩
      refine h2 T ρ' hne rfl hL0 (evI_tr eU e2) ⟨⟨fr_A f xU, tx, dp_O⟩, gsT, gBf_fr f (by decide) (by decide) (tr _ (by decide)) gbU, ⟨V', (tr _ (by decide)).trans eV', gvT⟩, ⟨by rw [t1]; trivial, t2⟩, ?_, ?_, gSs_fr f (by decide) (by decide) (tr _ (by decide)) gsT hM.2.2.2.2 glU, (ti _ (by decide)).trans u361, (ti _ (by decide)).trans u366, (ti _ (by decide)).trans u367, (ti _ (by decide)).trans u368, (ti _ (by decide)).trans u369, (ti _ (by decide)).trans u370⟩
      · rw [tr _ (by decide)]; exact gOv_fr f (by decide) gsT hM.2.2.1 gcU
      · rw [tr _ (by decide)]; exact gOv_fr f (by decide) gsT hM.2.2.2.1 gpU
    · have e2 : evI U T ρ ρ' x := ⟨fr_up f rfl, fun q hq => tr q (fun e => hq (by rw [e]; decide)), tx⟩
      have he : ∀ m, m < made → upR so made A m = so m ∧ upR sd made ds m = sd m ∧ upR sg made L m = sg m := fun m hm => ⟨up_ext hm, up_ext hm, up_ext hm⟩
      have lift : ∀ {w : Vw}, vwM made w → vwM (made + 1) w := fun h n hn => by have := h n hn; omega
      have oE : ∀ {o : Option Nat} {w : Option Vw}, ovM made w → gOv U ρ dp so sd sg o w → gOv T ρ' dp (upR so made A) (upR sd made ds) (upR sg made L) o w := fun hw g => gOv_fr f (by decide) gsT (fun w e => lift (hw w e)) (gOv_ext he hw g)
      refine h3 T ρ' A ds hne rfl hL1 (evI_tr eU e2) ⟨⟨fr_A f xU, tx, dp_O⟩, gsT, gBf_fr f (by decide) (by decide) (tr _ (by decide)) gbU, ⟨V', (tr _ (by decide)).trans eV', gvT⟩, ⟨by rw [t1]; trivial, t2⟩, ?_, ?_, gSs_fr f (by decide) (by decide) (tr _ (by decide)) gsT (fun s hs => lift (hM.2.2.2.2 s hs)) (gSs_ext he hM.2.2.2.2 glU), (ti _ (by decide)).trans u361, t366, (ti _ (by decide)).trans u367, (ti _ (by decide)).trans u368, (ti _ (by decide)).trans u369, (ti _ (by decide)).trans u370⟩
      · rw [tr _ (by decide)]; exact oE hM.2.2.1 gcU
      · rw [tr _ (by decide)]; exact oE hM.2.2.2.1 gpU
  · refine ⟨xU, xU, fun S10 e10 => ?_⟩
    have e10 : S10 = cSi U 357 x (nI (c + 1)) := by rw [e10]; show cSi U 357 x (nI c + nI 1) = _; rw [nI_add]
    have s10 : cSub U S10 (fun z => z = x) := e10 ▸ sub_Si rfl
    have r10 : ∀ q, cr S10 q x = cr U q x := fun q => hr_Si e10 rfl
    have i10 : ∀ q, q ≠ 357 → ci S10 q x = ci U q x := fun q hq => hi_Si_q e10 hq rfl
    have c10 : ci S10 357 x = nI (c + 1) := hi_Si_s e10
    refine ⟨sub_A1 s10 xU, ⟨by omega, by omega⟩, ?_⟩
    rw [c10, pk_sub (show c + 1 ≤ L.length by omega)]
    refine h1 S10 hne z (evI_tr eU (evI_x s10 hρ (fun q _ => r10 q))) (gIx_x s10 hM gU (fun q _ => r10 q) (Or.inl ⟨356, Or.inl rfl, r10 _, rfl⟩) (Or.inl ⟨358, Or.inr (Or.inl rfl), r10 _, rfl⟩) (Or.inl ⟨359, Or.inr (Or.inr rfl), r10 _, rfl⟩) c10 ((i10 _ (by decide)).trans u361) (i10 _ (by decide)) ((i10 _ (by decide)).trans u367) ((i10 _ (by decide)).trans u368) ((i10 _ (by decide)).trans u369) ((i10 _ (by decide)).trans u370))
set_option maxRecDepth 100000 in
/-- writes of a commit, and its copy of the index -/
theorem g_prep63 {Q : Int32 → cS → Prop} {mc ms cd dd : Nat} (g : gIx S ρ dp x so sd sg made B ix mg cm none sn op fi w cc false) (hM : ixM made ix mg cm none sn) (hF : gFd S ρ x fd) (hcc : ∀ k, cc = some k → k ≤ 1000) (hlen : ix.1.length ≤ 300) (hm : cd + 3 * ix.1.length + 10 ≤ mc) (hs : dd + 8 * ix.1.length + sumL (fun n => (sg n).length) ix.1 + 60 ≤ ms)
    (h1 : ∀ T ρ', (∀ k, cc = some k → chN sg ix cm + 1 ≤ k) → evI S T ρ ρ' x → gIx T ρ' dp x so sd sg made B ix mg cm (some ix) sn op fi (w + (chN sg ix cm + 1)) (cc.map (fun k => k - (chN sg ix cm + 1))) false → Q (nI ix.1.length) T)
    (h2 : ∀ U ρ' j, j ≤ chN sg ix cm → cc = some j → evD S U ρ ρ' x fd → gIx U ρ' dp x so sd sg made [] ([], ix.2) none cm none [] op fi (w + j) none true → Q (-2) U) : k_X11_prepare_63 Q dp mc ms x cd dd S := by
  obtain ⟨⟨hx, hρ, hdp⟩, gs, gb, ⟨V, e355, gv⟩, ⟨go, e357⟩, gc, gp, gl, i361, i366, i367, i368, i369, i370⟩ := id g
  obtain ⟨hl, vm, hs', gx⟩ := id gv
  have hch := chN_le sg ix cm
  have loop : k_X11_prepare_77L Q dp mc ms x (nI (chN sg ix cm)) (nI 0) cd dd S := by
    unfold k_X11_prepare_77L
    refine lfp_cnt (chN sg ix cm + 1) (fun k y => ∃ S', wrT S S' ρ x w cc k ∧ y = (x, nI (chN sg ix cm), nI k, cd, dd, S')) ?_ ⟨S, gIx_wr0 g, rfl⟩
    rintro P k _ hk ⟨S', hw, rfl⟩ ih
    show k_X11_prepare_77 Q dp mc ms _ x (nI (chN sg ix cm)) (nI k) cd dd S'
    unfold k_X11_prepare_77
    refine pk_lt (chN sg ix cm) k (fun z => ?_) (fun z => ⟨fr_A hw.1 hx, (if cc = some k then 2 else 0), (if cc = some k then 5 else 0), by split <;> omega, by split <;> omega, g_write g hF hcc hw (fun e => by rw [if_pos e]; exact Nat.le_refl _) (fun e => by rw [if_pos e]; exact Nat.le_refl _) (fun U hlt hU => ⟨fun _ => ?_, fun c => absurd c (by decide)⟩) (fun U ρ' hc hU => ⟨fun c => absurd rfl c, fun _ => ⟨by split <;> omega, h2 U ρ' k z hc (dn_ev hU) (dn_gIx g hM hU)⟩⟩)⟩)
    rotate_left
    · have hne : cc ≠ some k := fun e => absurd (hlt k e) (Nat.lt_irrefl k)
      rintro _ rfl
      rw [nI_add, if_neg hne, if_neg hne]
      exact ih _ (by omega) ⟨U, hU, rfl⟩
    obtain rfl : k = chN sg ix cm + 1 := by omega
    clear ih hk z hch
    obtain ⟨gU, eU⟩ := wr_gIx g hM hw
    obtain ⟨⟨xU, -, dpU⟩, gsU, gbU, ⟨V', eV', gvU⟩, ⟨goU, u357⟩, gcU, gpU, glU, u361, u366, u367, u368, u369, u370⟩ := id gU
    have allE : (ix.1.drop 0).take ix.1.length = ix.1 := by rw [List.drop_zero, List.take_length]
    refine ⟨xU, V', eV', xU, V', eV', (g_vA gvU).1, ⟨by omega, by omega⟩, g_vsize gvU ⟨(g_vA gvU).1, 3 * ix.1.length + 4, 45 + 8 * ix.1.length + sumL (fun n => (sg n).length) ix.1, by omega, by omega, ?_⟩⟩
    refine g_vcopy (τl' := 11) (τh' := 11) gvU dpU (by omega) hlen (Nat.le_refl _) (by rw [allE]; exact Nat.le_refl _) (fun T1 ρ1 W f1 nW gW => ?_)
    rw [allE] at gW
    have x1 := fr_A f1 xU
    have ρx1 : ρ1 x = 1 := fr_tg f1 xU.1 hρ (by decide)
    refine ⟨x1, fun S14 e14 => ?_⟩
    have s14 : cSub T1 S14 (fun z => z = x) := e14 ▸ sub_Sr rfl
    have f14 : fr S' S14 ρ ρ1 [1] := fr_x1 (fr_up f1 rfl) ρx1 (by decide) s14
    have f114 : fr T1 S14 ρ1 ρ1 [1] := ⟨sub_wk s14 (fun z _ hz => by rw [hz, ρx1]; decide), fun _ _ _ => rfl⟩
    have x14 := sub_A1 s14 x1
    have e359' : cr S14 359 x = some W := hr_Sr_s e14
    have r14 : ∀ q, q ≠ 359 → cr S14 q x = cr S' q x := fun q hq => (hr_Sr_q e14 hq rfl).trans (fr_cr f1 xU (by simp))
    have i14 : ∀ q, ci S14 q x = ci S' q x := fun q => (hi_Sr e14 rfl).trans (fr_ci f1 xU (by simp))
    have gs14 := gSegs_fr (fr_fk f14 (by decide)) (by decide) gsU
    have gW14 := gVw_fr f114 (by decide) (by decide) gs14 hM.1 gW
    refine ⟨x14, fun c => absurd (e359'.symm.trans c) (by simp), fun b hb => ?_⟩
    obtain rfl : W = b := Option.some.inj (e359'.symm.trans hb)
    refine ⟨(g_vA gW14).1, ⟨by omega, by omega⟩, g_vsize gW14 ⟨⟨by omega, by omega⟩, h1 S14 ρ1 hw.2.2.2.2.2 (evI_tr eU ⟨fr_up f14 rfl, fun q hq => r14 q (fun e => hq (by rw [e]; decide)), ρx1⟩) ?_⟩⟩
    refine ⟨⟨x14, ρx1, dp_O⟩, gs14, gBf_fr f14 (by decide) (by decide) (r14 _ (by decide)) gbU, ⟨V', (r14 _ (by decide)).trans eV', gVw_fr f14 (by decide) (by decide) gs14 hM.1 gvU⟩, ⟨?_, (i14 _).trans u357⟩, ?_, ?_, gSs_fr f14 (by decide) (by decide) (r14 _ (by decide)) gs14 hM.2.2.2.2 glU, (i14 _).trans u361, (i14 _).trans u366, (i14 _).trans u367, (i14 _).trans u368, (i14 _).trans u369, (i14 _).trans u370⟩
    · rw [r14 _ (by decide)]; exact gOv_fr f14 (by decide) gs14 hM.2.1 goU
    · rw [r14 _ (by decide)]; exact gOv_fr f14 (by decide) gs14 hM.2.2.1 gcU
    · rw [e359']; exact gW14
  unfold k_X11_prepare_63
  refine ⟨hx, V, e355, hx, fun e => ⟨gx.1.1, ⟨by omega, by omega⟩, ?_⟩, fun b e => ⟨gx.1.1, ⟨by omega, by omega⟩, ?_⟩⟩
  · have h := ov_vwO gc
    rw [e] at h
    exact q_changed gx.1 h loop
  · have h := ov_vwO gc
    rw [e] at h
    exact q_changed gx.1 h loop
set_option maxRecDepth 100000 in
theorem g_prep41 {Q : Int32 → cS → Prop} {mc ms : Nat} (g : gIx S ρ dp x so sd sg made B ix mg cm none sn op fi w cc false) (hM : ixM made ix mg cm none sn) (hF : gFd S ρ x fd) (hcc : ∀ k, cc = some k → k ≤ 1000) (hmade : made < 900) (hlen : ix.1.length ≤ 299) (hm : 610 * B.length + 3 * ix.1.length + 50 ≤ mc) (hs : 7000 * B.length + 8 * ix.1.length + sumL (fun n => (sg n).length) ix.1 + B.length + 1300 ≤ ms)
    (h1 : ∀ T ρ' so' sd' made' sg' ix' w' cc', flS made sg B ix w cc = (made', sg', ix', w', cc') → (∀ k, cc = some k → (match B with | [] => 0 | d :: B => (d :: B).length + 1) + chN sg' ix' cm + 1 ≤ k) → evI S T ρ ρ' x → gIx T ρ' dp x so' sd' sg' made' [] ix' mg cm (some ix') sn op fi (w' + (chN sg' ix' cm + 1)) (cc'.map (fun k => k - (chN sg' ix' cm + 1))) false → Q (nI ix'.1.length) T)
    (h2 : ∀ U ρ' j, B ≠ [] → j ≤ B.length → cc = some j → evD S U ρ ρ' x fd → gIx U ρ' dp x so sd sg made [] ([], ix.2) none cm none [] op fi (w + j) none true → Q (-2) U)
    (h3 : ∀ U ρ' so' sd' made' sg' ix' w' cc' j, flS made sg B ix w cc = (made', sg', ix', w', cc') → j ≤ chN sg' ix' cm → cc = some ((match B with | [] => 0 | d :: B => (d :: B).length + 1) + j) → evD S U ρ ρ' x fd → gIx U ρ' dp x so' sd' sg' made' [] ([], ix'.2) none cm none [] op fi (w' + j) none true → Q (-2) U) : k_X11_prepare_41 Q dp mc ms x 0 0 S := by
  obtain ⟨⟨hx, hρ, hdp⟩, gs, ⟨b, bs, bm, b1, b2, b3, b4, b5, b6, b7⟩, ⟨V, e355, gv⟩, ⟨go, e357⟩, gc, gp, gl, i361, i366, i367, i368, i369, i370⟩ := id g
  unfold k_X11_prepare_41
  refine ⟨hx, b, b1, b2.1, ⟨by omega, by omega⟩, q_lempty b2 (w_bn (bs.length == 0) (fun e => ?_) (fun e => ?_))⟩
  · have hB : B = [] := List.eq_nil_of_length_eq_zero (by have := beq_iff_eq.mp e; omega)
    subst hB
    refine g_prep63 g hM hF hcc (by omega) (by omega) (by omega) (fun T ρ' hk ev gT => h1 T ρ' so sd made sg ix w cc rfl (fun k e => by have := hk k e; show 0 + _ + 1 ≤ k; omega) ev gT) (fun U ρ' j hj hc ev gU => h3 U ρ' so sd made sg ix w cc j rfl hj (by show cc = some (0 + j); rw [Nat.zero_add]; exact hc) ev gU)
  · obtain ⟨d, B', rfl⟩ : ∃ d B', B = d :: B' := by
      cases B with
      | nil => rw [b5] at e; exact absurd e (by decide)
      | cons d B' => exact ⟨d, B', rfl⟩
    refine ⟨hx, 610 * (d :: B').length + 30, 7000 * (d :: B').length + 1200, by omega, by omega, ?_⟩
    refine g_flushI g hM hF hcc hmade (by omega) (Nat.le_refl _) (Nat.le_refl _) (fun T ρ' A ds hk ev gT => ⟨fun _ => ?_, fun e => absurd e (by intro e; have := nI_pos (n := made) (by omega); rw [e] at this; exact this (by decide))⟩) (fun U ρ' j hj hc dU => ⟨fun c => absurd rfl c, fun _ => ⟨by omega, h2 U ρ' j (by simp) hj hc (dn_ev dU) (dn_gIx g hM dU)⟩⟩)
    have he : ∀ m, m < made → upR sg made (d :: B') m = sg m := fun m hm => up_ext hm
    have lift : ∀ {w : Vw}, vwM made w → vwM (made + 1) w := fun h n hn => by have := h n hn; omega
    have hM' : ixM (made + 1) (ix.1 ++ [made], fun n j => if n = made then true else ix.2 n j) mg cm none sn := by
      refine ⟨fun n hn => ?_, fun w e => lift (hM.2.1 w e), fun w e => lift (hM.2.2.1 w e), fun w e => lift (hM.2.2.2.1 w e), fun s hs => lift (hM.2.2.2.2 s hs)⟩
      rcases List.mem_append.mp hn with h | h
      · have := hM.1 n h; omega
      · have := List.mem_singleton.mp h; omega
    have hsum : sumL (fun n => (upR sg made (d :: B') n).length) (ix.1 ++ [made]) = sumL (fun n => (sg n).length) ix.1 + (d :: B').length := by
      rw [sumL_app]
      have h1 : sumL (fun n => (upR sg made (d :: B') n).length) [made] = (d :: B').length := by
        show (upR sg made (d :: B') made).length + 0 = _
        rw [upR_s]; rfl
      have h2 : ∀ l : List Nat, (∀ n, n ∈ l → n < made) → sumL (fun n => (upR sg made (d :: B') n).length) l = sumL (fun n => (sg n).length) l := by
        intro l
        induction l with
        | nil => intro _; rfl
        | cons n l ih =>
          intro hl
          rw [sumL, sumL, ih (fun m hm => hl m (List.mem_cons_of_mem _ hm)), he n (hl n (List.mem_cons_self ..))]
      rw [h1, h2 ix.1 hM.1]
    have hl1 : (ix.1 ++ [made]).length = ix.1.length + 1 := by rw [List.length_append]; rfl
    have hx' := gT.1.1
    have hF' := (evI_fd ev hx hρ hF).1
    refine g_prep63 gT hM' hF' (fun k e => ?_) ?_ ?_ ?_ (fun T2 ρ2 hk2 ev2 gT2 => h1 T2 ρ2 _ _ _ _ _ _ _ rfl (fun k e => ?_) (evI_tr ev ev2) gT2) (fun U ρ2 j hj hc ev2 gU => h3 U ρ2 _ _ _ _ _ _ _ j rfl hj ?_ (evI_D ev hx hρ hF ev2) gU)
    · cases cc with
      | none => exact absurd e (by simp)
      | some c =>
        have := hcc c rfl
        have : c - ((d :: B').length + 1) = k := Option.some.inj e
        omega
    · show (ix.1 ++ [made]).length ≤ 300
      omega
    · show 0 + (610 * (d :: B').length + 30) + 3 * (ix.1 ++ [made]).length + 10 ≤ mc
      omega
    · show 0 + (7000 * (d :: B').length + 1200) + 8 * (ix.1 ++ [made]).length + sumL (fun n => (upR sg made (d :: B') n).length) (ix.1 ++ [made]) + 60 ≤ ms
      omega
    · have h1 := hk k e
      have h2 := hk2 (k - ((d :: B').length + 1)) (by rw [e]; rfl)
      show (d :: B').length + 1 + _ + 1 ≤ k
      omega
    · cases cc with
      | none => exact absurd hc (by simp)
      | some c =>
        have h1 := hk c rfl
        have h2 : c - ((d :: B').length + 1) = j := Option.some.inj hc
        show some c = some ((d :: B').length + 1 + j)
        congr 1
        omega
theorem g_prepare {Q : Int32 → cS → Prop} {mc ms : Nat} (g : gIx S ρ dp x so sd sg made B ix mg cm none sn op fi w cc false) (hmd : made < 200 ∨ B = []) (h : k_X11_prepare_41 Q dp mc ms x 0 0 S) : k_X11_prepare Q dp mc ms x S := by
  obtain ⟨⟨hx, hρ, hdp⟩, gs, ⟨b, bs, bm, b1, b2, b3, b4, b5, b6, b7⟩, ⟨V, e355, gv⟩, ⟨go, e357⟩, gc, gp, gl, i361, i366, i367, i368, i369, i370⟩ := id g
  unfold k_X11_prepare
  refine ⟨hx, ⟨by omega, by omega⟩, q_checkUp hx i370 ⟨hx, fun _ => ⟨hx, fun _ => h, fun c => ⟨hx, b, b1, b2.1, ⟨by omega, by omega⟩, q_lempty b2 (w_bn (bs.length == 0) (fun _ => h) (fun e => ?_))⟩⟩, fun b hb => absurd ((ov_none gp).symm.trans hb) (by simp)⟩⟩
  rw [i366] at c
  rcases hmd with h1 | h1
  · exact absurd ((nI_ltI (by omega) (by decide)).mpr h1) c
  · rw [b5, h1] at e; exact absurd e (by decide)
end OP2
