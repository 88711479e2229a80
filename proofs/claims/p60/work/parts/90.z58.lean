/-! both worlds together: a step of a merge -/
section OP2
variable {S T U : cS} {ρ ρ' ρ'' : Nat → Nat} {dp x fd made : Nat} {so : Nat → Nat} {sd : Nat → List Nat} {sg : Nat → List Dc} {B : List Dc} {ix : Vw} {mg : Option (Vw × Nat)} {cm pr : Option Vw} {sn : List (Nat × Vw)} {op fi w : Nat} {cc : Option Nat} {off : Bool}
set_option maxRecDepth 100000 in
theorem g_stepB {Q : Int32 → cS → Prop} {mc ms c p : Nat} {src : Vw} {L Ld : List Dc} (g : gIx S ρ dp x so sd sg made B ix (some (src, c)) cm pr sn op fi w cc false) (hM : ixM made ix (some (src, c)) cm pr sn) (hF : gFd S ρ x fd) (hcc : ∀ k, cc = some k → k ≤ 1000) (hmade : made < 900) (hnd : ix.1.Nodup) (hlen : ix.1.length ≤ 300) (hsrc : ∀ (j n : Nat), src.1[j]? = some n → ix.1[p + j]? = some n) (hs3 : src.1.length = 3) (hp : p + 3 ≤ ix.1.length) (hL : L = src.1.flatMap (fun n => selA (src.2 n) 0 (sg n))) (hLd : Ld = src.1.flatMap (fun n => selA (fun j => src.2 n j && !ix.2 n j) 0 (sg n))) (hkd : ∀ (i j : Nat) (d e : Dc), L[i]? = some d → L[j]? = some e → dK d = dK e → i = j) (hK : L.length ≤ 100) (hc : c ≤ L.length) (hm0 : 10 ≤ mc) (hs0 : 20 ≤ ms) (hm : c = L.length → 610 * c + 310 ≤ mc) (hs : c = L.length → 7000 * c + 6010 ≤ ms)
    (h1 : ∀ T, cc ≠ some 0 → c < L.length → evI S T ρ ρ x → gIx T ρ dp x so sd sg made B ix (some (src, c + 1)) cm pr sn op fi (w + 1) (cc.map (fun k => k - 1)) false → Q (nI (L.length - (c + 1))) T)
    (h2 : ∀ T ρ', cc ≠ some 0 → c = L.length → L = [] → evI S T ρ ρ' x → gIx T ρ' dp x so sd sg made B (ix.1.take p ++ ix.1.drop (p + 3), ix.2) none cm pr sn op fi (w + 1) (cc.map (fun k => k - 1)) false → Q (-1) T)
    (h3 : ∀ T ρ' A ds, cc ≠ some 0 → c = L.length → L ≠ [] → evI S T ρ ρ' x → gIx T ρ' dp x (upR so made A) (upR sd made ds) (upR sg made L) (made + 1) B (ix.1.take p ++ made :: ix.1.drop (p + 3), fun n j => if n = made then mvF L (Ld.map dK) j else ix.2 n j) none cm pr sn op fi (w + 1) (cc.map (fun k => k - 1)) false → Q (-1) T)
    (h4 : ∀ U ρ', cc = some 0 → evD S U ρ ρ' x fd → gIx U ρ' dp x so sd sg made [] ([], ix.2) none cm none [] op fi w none true → Q (-2) U) : k_X11_step Q dp mc ms x S := by
  obtain ⟨⟨hx, hρ, hdp⟩, gs, gb, ⟨V, e355, gv⟩, ⟨go, e357⟩, gc, gp, gl, i361, i366, i367, i368, i369, i370⟩ := id g
  obtain ⟨W, e356, gw⟩ := ov_some go
  unfold k_X11_step
  refine ⟨hx, ⟨by omega, by omega⟩, q_checkUp hx i370 ⟨hx, fun c => absurd (e356.symm.trans c) (by simp), fun b hb => ⟨hx, 2, 5, by omega, by omega, g_write g hF hcc (gIx_wr0 g) (fun _ => Nat.le_refl _) (fun _ => Nat.le_refl _) (fun U hlt hU => ⟨fun _ => ?_, fun c => absurd c (by decide)⟩) (fun U ρ' hc hU => ⟨fun c => absurd rfl c, fun _ => ⟨⟨by omega, by omega⟩, h4 U ρ' hc (dn_ev hU) (dn_gIx g hM hU)⟩⟩)⟩⟩⟩
  obtain rfl : W = b := Option.some.inj (e356.symm.trans hb)
  have hne : cc ≠ some 0 := fun e => absurd (hlt 0 e) (Nat.lt_irrefl 0)
  obtain ⟨gU, eU⟩ := wr_gIx g hM hU
  obtain ⟨⟨xU, -, dpU⟩, gsU, gbU, ⟨V', eV', gvU⟩, ⟨goU, u357⟩, gcU, gpU, glU, u361, u366, u367, u368, u369, u370⟩ := id gU
  have rU := hU.2.2.1
  obtain ⟨W', eW', gwU⟩ := ov_some goU
  obtain rfl : W = W' := Option.some.inj ((e356.symm.trans (rU 356).symm).trans eW')
  have hsum : sumL (fun n => cntB (src.2 n) (sg n).length) src.1 = L.length := by
    rw [hL]
    have : ∀ l : List Nat, sumL (fun n => cntB (src.2 n) (sg n).length) l = (l.flatMap (fun n => selA (src.2 n) 0 (sg n))).length := by
      intro l
      induction l with
      | nil => rfl
      | cons n l ih =>
        have h2 := selA_len (f := src.2 n) (l := sg n) (k := (sg n).length) (Nat.le_refl _)
        rw [List.take_length] at h2
        rw [List.flatMap_cons, List.length_append, sumL, ih, h2]
    exact this _
  refine ⟨(g_vA gwU).1, ⟨by omega, by omega⟩, g_vlive gwU ?_⟩
  rw [hsum, u357]
  clear hsum
  show _ ∧ (((nI L.length ≤ nI c) → _) ∧ _)
  refine ⟨xU, pk_le L.length c (fun z => ?_) (fun z => ?_)⟩
  · obtain rfl : c = L.length := by omega
    have hm := hm rfl
    have hs := hs rfl
    refine ⟨xU, 610 * L.length + 300, 7000 * L.length + 6000, by omega, by omega, ?_⟩
    refine g_endMerge xU hρ dpU u366 hmade eV' gsU gvU hM.1 hnd hlen gwU hsrc hs3 hp hL hLd hkd hK (Nat.le_refl _) (Nat.le_refl _) (fun T ρ' hL0 f gsT gvT t1 t2 ti tr tx => ⟨⟨by omega, by omega⟩, ?_⟩) (fun T ρ' A ds hL1 f gsT gvT t1 t2 t366 ti tr tx => ⟨⟨by omega, by omega⟩, ?_⟩)
    · have e2 : evI U T ρ ρ' x := ⟨fr_up f rfl, fun q hq => tr q (fun e => hq (by rw [e]; decide)), tx⟩
      refine h2 T ρ' hne rfl hL0 (evI_tr eU e2) ⟨⟨fr_A f xU, tx, dp_O⟩, gsT, gBf_fr f (by decide) (by decide) (tr _ (by decide)) gbU, ⟨V', (tr _ (by decide)).trans eV', gvT⟩, ⟨by rw [t1]; trivial, t2⟩, ?_, ?_, gSs_fr f (by decide) (by decide) (tr _ (by decide)) gsT hM.2.2.2.2 glU, (ti _ (by decide)).trans u361, (ti _ (by decide)).trans u366, (ti _ (by decide)).trans u367, (ti _ (by decide)).trans u368, (ti _ (by decide)).trans u369, (ti _ (by decide)).trans u370⟩
      · rw [tr _ (by decide)]; exact gOv_fr f (by decide) gsT hM.2.2.1 gcU
      · rw [tr _ (by decide)]; exact gOv_fr f (by decide) gsT hM.2.2.2.1 gpU
    · have e2 : evI U T ρ ρ' x := ⟨fr_up f rfl, fun q hq => tr q (fun e => hq (by rw [e]; decide)), tx⟩
      have he : ∀ m, m < made → upR so made A m = so m ∧ upR sd made ds m = sd m ∧ upR sg made L m = sg m := fun m hm => ⟨up_ext hm, up_ext hm, up_ext hm⟩
      have lift : ∀ {w : Vw}, vwM made w → vwM (made + 1) w := fun h n hn => by have := h n hn; omega
      have oE : ∀ {o : Option Nat} {w : Option Vw}, ovM made w → gOv U ρ dp so sd sg o w → gOv T ρ' dp (upR so made A) (upR sd made ds) (upR sg made L) o w := fun hw g => gOv_fr f (by decide) gsT (fun w e => lift (hw w e)) (gOv_ext he hw g)
      refine h3 T ρ' A ds hne rfl hL1 (evI_tr eU e2) ⟨⟨fr_A f xU, tx, dp_O⟩, gsT, gBf_fr f (by decide) (by decide) (tr _ (by decide)) gbU, ⟨V', (tr _ (by decide)).trans eV', gvT⟩, ⟨by rw [t1]; trivial, t2⟩, ?_, ?_, gSs_fr f (by decide) (by decide) (tr _ (by decide)) gsT (fun s hs => lift (hM.2.2.2.2 s hs)) (gSs_ext he hM.2.2.2.2 glU), (ti _ (by decide)).trans u361, t366, (ti _ (by decide)).trans u367, (ti _ (by decide)).trans u368, (ti _ (by decide)).trans u369, (ti _ (by decide)).trans u370⟩
      · rw [tr _ (by decide)]; exact oE hM.2.2.1 gcU
      · rw [tr _ (by decide)]; exact oE hM.2.2.2.1 gpU
  · refine ⟨xU, xU, fun S10 e10 => ?_⟩
    have e10 : S10 = cSi U 357 x (nI (c + 1)) := by rw [e10]; show cSi U 357 x (nI c + nI 1) = _; rw [nI_add]
    have s10 : cSub U S10 (fun z => z = x) := e10 ▸ sub_Si rfl
    have r10 : ∀ q, cr S10 q x = cr U q x := fun q => hr_Si e10 rfl
    have i10 : ∀ q, q ≠ 357 → ci S10 q x = ci U q x := fun q hq => hi_Si_q e10 hq rfl
    have c10 : ci S10 357 x = nI (c + 1) := hi_Si_s e10
    refine ⟨sub_A1 s10 xU, ⟨by omega, by omega⟩, ?_⟩
    rw [c10, pk_sub (show c + 1 ≤ L.length by omega)]
    refine h1 S10 hne z (evI_tr eU (evI_x s10 hρ (fun q _ => r10 q))) (gIx_x s10 hM gU (fun q _ => r10 q) (Or.inl ⟨356, Or.inl rfl, r10 _, rfl⟩) (Or.inl ⟨358, Or.inr (Or.inl rfl), r10 _, rfl⟩) (Or.inl ⟨359, Or.inr (Or.inr rfl), r10 _, rfl⟩) c10 ((i10 _ (by decide)).trans u361) (i10 _ (by decide)) ((i10 _ (by decide)).trans u367) ((i10 _ (by decide)).trans u368) ((i10 _ (by decide)).trans u369) ((i10 _ (by decide)).trans u370))
end OP2
section PUR
variable {sg : Nat → List Dc} {made : Nat}
theorem nd_ix {α : Type} : ∀ {l : List α} {i j : Nat} {x : α}, l.Nodup → l[i]? = some x → l[j]? = some x → i = j
  | [], _, _, _, _, h, _ => absurd (get_lt h) (Nat.not_lt_zero _)
  | _ :: _, 0, 0, _, _, _, _ => rfl
  | a :: l, 0, j + 1, x, hn, hi, hj => by
    obtain rfl : a = x := Option.some.inj hi
    exact absurd (List.mem_of_getElem? (show l[j]? = some a from hj)) (List.nodup_cons.mp hn).1
  | a :: l, i + 1, 0, x, hn, hi, hj => by
    obtain rfl : a = x := Option.some.inj hj
    exact absurd (List.mem_of_getElem? (show l[i]? = some a from hi)) (List.nodup_cons.mp hn).1
  | a :: l, i + 1, j + 1, x, hn, hi, hj => by rw [nd_ix (i := i) (j := j) (List.nodup_cons.mp hn).2 hi hj]
theorem nd_of {α : Type} : ∀ {l : List α}, (∀ (i j : Nat) (x : α), l[i]? = some x → l[j]? = some x → i = j) → l.Nodup
  | [], _ => List.nodup_nil
  | a :: l, h => List.nodup_cons.mpr ⟨fun hin => by
      obtain ⟨j, hj⟩ := List.mem_iff_getElem?.mp hin
      exact absurd (h 0 (j + 1) a rfl hj) (by omega), nd_of (fun i j x hi hj => by have := h (i + 1) (j + 1) x hi hj; omega)⟩
theorem fnd_sel {f : Nat → Bool} {n : Nat} {l : List Dc} : ∀ k, k ≤ l.length → (fndJ f n k).map (fun y => l.getD y.2 dfD) = selA f 0 (l.take k)
  | 0, _ => by rw [List.take_zero]; rfl
  | k + 1, h => by
    obtain ⟨x, hx⟩ := get_ex (l := l) (k := k) (by omega)
    rw [selA_take hx, ← fnd_sel (f := f) (n := n) k (by omega), fndJ, List.map_append]
    congr 1
    cases f k with
    | false => rfl
    | true =>
      show [l.getD k dfD] = [x]
      rw [List.getD_eq_getElem?_getD, hx]; rfl
theorem dcA_sel {lv : Nat → Nat → Bool} : ∀ ids : List Nat, dcA sg (mtL sg lv ids) = ids.flatMap (fun n => selA (lv n) 0 (sg n))
  | [] => rfl
  | n :: ids => by
    have ih := dcA_sel (lv := lv) ids
    unfold dcA mtL at ih ⊢
    rw [List.flatMap_cons, List.flatMap_cons, List.map_append, ih]
    congr 1
    have h := fnd_sel (f := lv n) (n := n) (l := sg n) (sg n).length (Nat.le_refl _)
    rw [List.take_length] at h
    rw [← h]
    exact List.map_congr_left (fun y hy => by rw [(fndJ_mem hy).1])
theorem dcA_len {mp : List (Nat × Nat)} : (dcA sg mp).length = mp.length := List.length_map _
theorem dcA_get {mp : List (Nat × Nat)} {i : Nat} {d : Dc} (h : (dcA sg mp)[i]? = some d) : ∃ y, mp[i]? = some y ∧ d = (sg y.1).getD y.2 dfD := by
  unfold dcA at h
  rw [List.getElem?_map] at h
  cases e : mp[i]? with
  | none => rw [e] at h; exact absurd h (by simp)
  | some y =>
    rw [e] at h
    exact ⟨y, rfl, (Option.some.inj h).symm⟩
theorem getD_some {l : List Dc} {j : Nat} (h : j < l.length) : l[j]? = some (l.getD j dfD) := by
  obtain ⟨x, hx⟩ := get_ex h
  rw [List.getD_eq_getElem?_getD, hx]; rfl
/-- a place among those that live -/
theorem mt_get {s : Vw} {i : Nat} {y : Nat × Nat} (h : (mtL sg s.2 s.1)[i]? = some y) : y.1 ∈ s.1 ∧ s.2 y.1 y.2 = true ∧ (sg y.1)[y.2]? = some ((sg y.1).getD y.2 dfD) := by
  obtain ⟨h1, h2, h3⟩ := mtL_mem (List.mem_of_getElem? h)
  exact ⟨h1, h3, getD_some h2⟩
theorem mt_key {s : Vw} (hv : vG sg s) {i j : Nat} {y z : Nat × Nat} (hi : (mtL sg s.2 s.1)[i]? = some y) (hj : (mtL sg s.2 s.1)[j]? = some z) (e : dK ((sg y.1).getD y.2 dfD) = dK ((sg z.1).getD z.2 dfD)) : i = j ∧ y = z := by
  obtain ⟨a1, a2, a3⟩ := mt_get hi
  obtain ⟨b1, b2, b3⟩ := mt_get hj
  have h := hv.2 _ y.1 y.2 _ z.1 z.2 _ a1 b1 a3 b3 a2 b2 rfl e.symm
  have yz : y = z := Prod.ext h.1 h.2
  subst yz
  exact ⟨nd_ix (mtL_nd hv.1) hi hj, rfl⟩
theorem kd_of {s : Vw} (hv : vG sg s) : ∀ (i j : Nat) (d e : Dc), (dcA sg (mtL sg s.2 s.1))[i]? = some d → (dcA sg (mtL sg s.2 s.1))[j]? = some e → dK d = dK e → i = j := fun i j d e hi hj h => by
  obtain ⟨y, h1, rfl⟩ := dcA_get hi
  obtain ⟨z, h2, rfl⟩ := dcA_get hj
  exact (mt_key hv h1 h2 h).1
/-- what lives of a merge's segment: the class asks keys, the reference copies -/
theorem mv_lv {s : Vw} {lv : Nat → Nat → Bool} (hv : vG sg s) {j : Nat} (hj : j < (dcA sg (mtL sg s.2 s.1)).length) : lvM made (mtL sg s.2 s.1) lv made j = mvF (dcA sg (mtL sg s.2 s.1)) ((dcA sg (mtL sg (fun n j => s.2 n j && !lv n j) s.1)).map dK) j := by
  obtain ⟨d, hd⟩ := get_ex hj
  obtain ⟨y, hy, rfl⟩ := dcA_get hd
  have e1 : lvM made (mtL sg s.2 s.1) lv made j = lv y.1 y.2 := by
    unfold lvM
    rw [if_pos rfl, List.getD_eq_getElem?_getD, hy]; rfl
  have e2 : mtL sg (fun n j => s.2 n j && !lv n j) s.1 = (mtL sg s.2 s.1).filter (fun z => !lv z.1 z.2) := mtL_filter (P := fun z => !lv z.1 z.2) s.1
  unfold mvF
  rw [e1, hd, e2]
  show lv y.1 y.2 = !(((dcA sg ((mtL sg s.2 s.1).filter (fun z => !lv z.1 z.2))).map dK).contains (dK ((sg y.1).getD y.2 dfD)))
  cases c : lv y.1 y.2 with
  | false =>
    have : dK ((sg y.1).getD y.2 dfD) ∈ (dcA sg ((mtL sg s.2 s.1).filter (fun z => !lv z.1 z.2))).map dK := by
      unfold dcA
      rw [List.map_map]
      exact List.mem_map.mpr ⟨y, List.mem_filter.mpr ⟨List.mem_of_getElem? hy, by rw [c]; rfl⟩, rfl⟩
    rw [List.contains_iff_mem.mpr this]; rfl
  | true =>
    cases c2 : ((dcA sg ((mtL sg s.2 s.1).filter (fun z => !lv z.1 z.2))).map dK).contains (dK ((sg y.1).getD y.2 dfD)) with
    | false => rfl
    | true =>
      exfalso
      have hm := List.contains_iff_mem.mp c2
      unfold dcA at hm
      rw [List.map_map] at hm
      obtain ⟨z, hz, ez⟩ := List.mem_map.mp hm
      obtain ⟨z1, z2⟩ := List.mem_filter.mp hz
      obtain ⟨i, hi⟩ := List.mem_iff_getElem?.mp z1
      obtain ⟨-, rfl⟩ := mt_key hv hy hi ez.symm
      rw [c] at z2
      exact absurd z2 (by decide)
theorem cut_mem {l : List Nat} {p made n : Nat} (hp : p ≤ l.length) (h : n ∈ l.take p ++ made :: l.drop (p + 3)) : n = made ∨ ∃ a, (a < p ∨ p + 3 ≤ a) ∧ l[a]? = some n := by
  obtain ⟨a, ha⟩ := List.mem_iff_getElem?.mp h
  rcases cutM_get hp ha with ⟨h1, h2⟩ | ⟨-, h2⟩ | ⟨h1, h2⟩
  · exact Or.inr ⟨a, Or.inl h1, h2⟩
  · exact Or.inl h2
  · exact Or.inr ⟨a + 2, Or.inr (by omega), h2⟩
theorem cut_nd {l : List Nat} {p made : Nat} (hp : p ≤ l.length) (hn : l.Nodup) (hm : made ∉ l) : (l.take p ++ made :: l.drop (p + 3)).Nodup := by
  refine nd_of (fun i j x hi hj => ?_)
  have no : ∀ {a : Nat}, l[a]? = some made → False := fun h => hm (List.mem_of_getElem? h)
  rcases cutM_get hp hi with ⟨h1, h2⟩ | ⟨h1, h2⟩ | ⟨h1, h2⟩ <;> rcases cutM_get hp hj with ⟨g1, g2⟩ | ⟨g1, g2⟩ | ⟨g1, g2⟩
  · exact nd_ix hn h2 g2
  · subst g2; exact (no h2).elim
  · have := nd_ix hn h2 g2; omega
  · subst h2; exact (no g2).elim
  · omega
  · subst h2; exact (no g2).elim
  · have := nd_ix hn h2 g2; omega
  · subst g2; exact (no h2).elim
  · have := nd_ix hn h2 g2; omega
theorem cut_sub {l : List Nat} {p : Nat} : (l.take p ++ l.drop (p + 3)).Sublist l := by
  have e : (l.drop p).drop 3 = l.drop (p + 3) := by
    rw [List.drop_drop]
  have h : (l.take p ++ (l.drop p).drop 3).Sublist (l.take p ++ l.drop p) := List.Sublist.append (List.Sublist.refl _) (List.drop_sublist _ _)
  rw [e, List.take_append_drop] at h
  exact h
end PUR
section GLV
variable {S : cS} {ρ : Nat → Nat} {dp x made : Nat} {so : Nat → Nat} {sd : Nat → List Nat} {sg : Nat → List Dc} {B : List Dc} {ix : Vw} {mg : Option (Vw × Nat)} {cm pr : Option Vw} {sn : List (Nat × Vw)} {op fi w : Nat} {cc : Option Nat} {off : Bool}
theorem gVw_lv {τl τh V : Nat} {ids : List Nat} {lv lv' : Nat → Nat → Bool} (he : ∀ n, n ∈ ids → ∀ j, j < (sg n).length → lv' n j = lv n j) (g : gVw S ρ dp so sd sg τl τh V ids lv) : gVw S ρ dp so sd sg τl τh V ids lv' := by
  obtain ⟨hl, m, hs, ⟨g1, g2, g3, g4, g5⟩, rest⟩ := g
  refine ⟨hl, m, hs, ⟨g1, g2, g3, g4, fun i h n hi hn => ?_⟩, rest⟩
  obtain ⟨a1, a2, a3, r, a4⟩ := g5 i h n hi hn
  exact ⟨a1, a2, a3, r, hoT_ext a4 (fun j hj => he n (List.mem_of_getElem? hn) j hj)⟩
/-- the index's live may be told otherwise -/
theorem gIx_lv {lv' : Nat → Nat → Bool} (he : ∀ n, n ∈ ix.1 → ∀ j, j < (sg n).length → lv' n j = ix.2 n j) (g : gIx S ρ dp x so sd sg made B ix mg cm pr sn op fi w cc off) : gIx S ρ dp x so sd sg made B (ix.1, lv') mg cm pr sn op fi w cc off := by
  obtain ⟨g1, g2, g3, ⟨V, e, gv⟩, rest⟩ := g
  exact ⟨g1, g2, g3, ⟨V, e, gVw_lv he gv⟩, rest⟩
end GLV
