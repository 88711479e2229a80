/-! both worlds together: a step of a merge -/
section OP2
variable {S T U : cS} {ρ ρ' ρ'' : Nat → Nat} {dp x fd made : Nat} {so : Nat → Nat} {sd : Nat → List Nat} {sg : Nat → List Dc} {B : List Dc} {ix : Vw} {mg : Option (Vw × Nat)} {cm pr : Option Vw} {sn : List (Nat × Vw)} {op fi w : Nat} {cc : Option Nat} {off : Bool}
set_option maxRecDepth 100000 in
theorem g_stepB {Q : Int32 → cS → Prop} {mc ms c p : Nat} {src : Vw} {L Ld : List Dc} (g : gIx S ρ dp x so sd sg made B ix (some (src, c)) cm pr sn op fi w cc false) (hM : ixM made ix (some (src, c)) cm pr sn) (hF : gFd S ρ x fd) (hcc : ∀ k, cc = some k → k ≤ 1000) (hmade : made < 900) (hnd : ix.1.Nodup) (hlen : ix.1.length ≤ 300) (hsrc : ∀ (j n : Nat), src.1[j]? = some n → ix.1[p + j]? = some n) (hs3 : src.1.length = 3) (hp : p + 3 ≤ ix.1.length) (hL : L = src.1.flatMap (fun n => selA (src.2 n) 0 (sg n))) (hLd : Ld = src.1.flatMap (fun n => selA (fun j => src.2 n j && !ix.2 n j) 0 (sg n))) (hkd : ∀ (i j : Nat) (d e : Dc), L[i]? = some d → L[j]? = some e → dK d = dK e → i = j) (hK : L.length ≤ 100) (hc : c ≤ L.length) (hm0 : 10 ≤ mc) (hs0 : 20 ≤ ms) (hm : c = L.length → 610 * c + 310 ≤ mc) (hs : c = L.length → 7000 * c + 6010 ≤ ms)
    (h1 : ∀ T, cc ≠ some 0 → c < L.length → evI S T ρ ρ x → gIx T ρ dp x so sd sg made B ix (some (src, c + 1)) cm pr sn op fi (w + 1) (cc.map (fun k => k - 1)) false → Q (nI (L.length - (c + 1))) T)
    (h2 : ∀ T ρ', cc ≠ some 0 → c = L.length → L = [] → evI S T ρ ρ' x → gIx T ρ' dp x so sd sg made B (ix.1.take p ++ ix.1.drop (p + 3), ix.2) none cm pr sn op fi (w + 1) (cc.map (fun k => k - 1)) false → Q (-1) T)
    (h3 : ∀ T ρ' A ds, cc ≠ some 0 → c = L.length → L ≠ [] → evI S T ρ ρ' x → gIx T ρ' dp x (upR so made A) (upR sd made ds) (upR sg made L) (made + 1) B (ix.1.take p ++ made :: ix.1.drop (p + 3), fun n j => if n = made then mvF L (Ld.map dK) j else ix.2 n j) none cm pr sn op fi (w + 1) (cc.map (fun k => k - 1)) false → Q (-1) T)
    (h4 : ∀ U ρ', cc = some 0 → evD S U ρ ρ' x fd → gIx U ρ' dp x so sd sg made [] ([], ix.2) none cm none [] op fi w none true → Q (-2) U) : k_X11_step Q dp mc ms x S := by
  obtain ⟨⟨hx, hρ, hdp⟩, gs, gb, ⟨V, e355, gv⟩, ⟨go, e357⟩, gc, gp, gl, i361, i366, i367, i368, i369, i370⟩ := id g
  obtain ⟨W, e356, gw⟩ := ov_some go
  unfold k_X11_step
  refine ⟨hx, ⟨by omega, by omega⟩, q_checkUp hx i370 ⟨hx, fun c => absurd (e356.symm.trans c) (by simp), fun b hb => ⟨hx, 2, 5, by omega, by omega, g_write g hF hcc (gIx_wr0 g) (fun _ => Nat.le_refl _) (fun _ => Nat.le_refl _) (fun U hlt hU => ⟨fun _ => ?_, fun c => absurd c (by decide)⟩) (fun U ρ' hc hU => ⟨fun c => absurd rfl c, fun _ => ⟨⟨by omega, by omega⟩, h4 U ρ' hc (dn_ev hU) (dn_gIx g hM hU)⟩⟩)⟩⟩⟩
  obtain rfl : W = b := Option.some.inj (e356.symm.trans hb)
  have hne : cc ≠ some 0 := fun e => absurd (hlt 0 e) (Nat.lt_irrefl 0)
  obtain ⟨gU, eU⟩ := wr_gIx g hM hU
  obtain ⟨⟨xU, -, dpU⟩, gsU, gbU, ⟨V', eV', gvU⟩, ⟨goU, u357⟩, gcU, gpU, glU, u361, u366, u367, u368, u369, u370⟩ := id gU
  have rU := hU.2.2.1
  obtain ⟨W', eW', gwU⟩ := ov_some goU
  obtain rfl : W = W' := Option.some.inj ((e356.symm.trans (rU 356).symm).trans eW')
  have hsum : sumL (fun n => cntB (src.2 n) (sg n).length) src.1 = L.length := by
    rw [hL]
    have : ∀ l : List Nat, sumL (fun n => cntB (src.2 n) (sg n).length) l = (l.flatMap (fun n => selA (src.2 n) 0 (sg n))).length := by
      intro l
      induction l with
      | nil => rfl
      | cons n l ih =>
        have h2 := selA_len (f := src.2 n) (l := sg n) (k := (sg n).length) (Nat.le_refl _)
        rw [List.take_length] at h2
        rw [List.flatMap_cons, List.length_append, sumL, ih, h2]
    exact this _
  refine ⟨(g_vA gwU).1, ⟨by omega, by omega⟩, g_vlive gwU ?_⟩
  rw [hsum, u357]
  clear hsum
  show _ ∧ (((nI L.length ≤ nI c) → _) ∧ _)
  refine ⟨xU, pk_le L.length c (fun z => ?_) (fun z => ?_)⟩
  · obtain rfl : c = L.length := by omega
    have hm := hm rfl
    have hs := hs rfl
    refine ⟨xU, 610 * L.length + 300, 7000 * L.length + 6000, by omega, by omega, ?_⟩
    refine g_endMerge xU hρ dpU u366 hmade eV' gsU gvU hM.1 hnd hlen gwU hsrc hs3 hp hL hLd hkd hK (Nat.le_refl _) (Nat.le_refl _) (fun T ρ' hL0 f gsT gvT t1 t2 ti tr tx => ⟨⟨by omega, by omega⟩, ?_⟩) (fun T ρ' A ds hL1 f gsT gvT t1 t2 t366 ti tr tx => ⟨⟨by omega, by omega⟩, ?_⟩)
    · have e2 : evI U T ρ ρ' x := ⟨fr_up f rfl, fun q hq => tr q (fun e => hq (by rw [e]; decide)), tx⟩
      refine h2 T ρ' hne rfl hL0 (evI_tr eU e2) ⟨⟨fr_A f xU, tx, dp_O⟩, gsT, gBf_fr f (by decide) (by decide) (tr _ (by decide)) gbU, ⟨V', (tr _ (by decide)).trans eV', gvT⟩, ⟨by rw [t1]; trivial, t2⟩, ?_, ?_, gSs_fr f (by decide) (by decide) (tr _ (by decide)) gsT hM.2.2.2.2 glU, (ti _ (by decide)).trans u361, (ti _ (by decide)).trans u366, (ti _ (by decide)).trans u367, (ti _ (by decide)).trans u368, (ti _ (by decide)).trans u369, (ti _ (by decide)).trans u370⟩
      · rw [tr _ (by decide)]; exact gOv_fr f (by decide) gsT hM.2.2.1 gcU
      · rw [tr _ (by decide)]; exact gOv_fr f (by decide) gsT hM.2.2.2.1 gpU
    · have e2 : evI U T ρ ρ' x := ⟨fr_up f rfl, fun q hq => tr q (fun e => hq (by rw [e]; decide)), tx⟩
      have he : ∀ m, m < made → upR so made A m = so m ∧ upR sd made ds m = sd m ∧ upR sg made L m = sg m := fun m hm => ⟨up_ext hm, up_ext hm, up_ext hm⟩
      have lift : ∀ {w : Vw}, vwM made w → vwM (made + 1) w := fun h n hn => by have := h n hn; omega
      have oE : ∀ {o : Option Nat} {w : Option Vw}, ovM made w → gOv U ρ dp so sd sg o w → gOv T ρ' dp (upR so made A) (upR sd made ds) (upR sg made L) o w := fun hw g => gOv_fr f (by decide) gsT (fun w e => lift (hw w e)) (gOv_ext he hw g)
      refine h3 T ρ' A ds hne rfl hL1 (evI_tr eU e2) ⟨⟨fr_A f xU, tx, dp_O⟩, gsT, gBf_fr f (by decide) (by decide) (tr _ (by decide)) gbU, ⟨V', (tr _ (by decide)).trans eV', gvT⟩, ⟨by rw [t1]; trivial, t2⟩, ?_, ?_, gSs_fr f (by decide) (by decide) (tr _ (by decide)) gsT (fun s hs => lift (hM.2.2.2.2 s hs)) (gSs_ext he hM.2.2.2.2 glU), (ti _ (by decide)).trans u361, t366, (ti _ (by decide)).trans u367, (ti _ (by decide)).trans u368, (ti _ (by decide)).trans u369, (ti _ (by decide)).trans u370⟩
      · rw [tr _ (by decide)]; exact oE hM.2.2.1 gcU
      · rw [tr _ (by decide)]; exact oE hM.2.2.2.1 gpU
  · refine ⟨xU, xU, fun S10 e10 => ?_⟩
    have e10 : S10 = cSi U 357 x (nI (c + 1)) := by rw [e10]; show cSi U 357 x (nI c + nI 1) = _; rw [nI_add]
    have s10 : cSub U S10 (fun z => z = x) := e10 ▸ sub_Si rfl
    have r10 : ∀ q, cr S10 q x = cr U q x := fun q => hr_Si e10 rfl
    have i10 : ∀ q, q ≠ 357 → ci S10 q x = ci U q x := fun q hq => hi_Si_q e10 hq rfl
    have c10 : ci S10 357 x = nI (c + 1) := hi_Si_s e10
    refine ⟨sub_A1 s10 xU, ⟨by omega, by omega⟩, ?_⟩
    rw [c10, pk_sub (show c + 1 ≤ L.length by omega)]
    refine h1 S10 hne z (evI_tr eU (evI_x s10 hρ (fun q _ => r10 q))) (gIx_x s10 hM gU (fun q _ => r10 q) (Or.inl ⟨356, Or.inl rfl, r10 _, rfl⟩) (Or.inl ⟨358, Or.inr (Or.inl rfl), r10 _, rfl⟩) (Or.inl ⟨359, Or.inr (Or.inr rfl), r10 _, rfl⟩) c10 ((i10 _ (by decide)).trans u361) (i10 _ (by decide)) ((i10 _ (by decide)).trans u367) ((i10 _ (by decide)).trans u368) ((i10 _ (by decide)).trans u369) ((i10 _ (by decide)).trans u370))
end OP2
section PUR
variable {sg : Nat → List Dc} {made : Nat}
theorem nd_ix {α : Type} : ∀ {l : List α} {i j : Nat} {x : α}, l.Nodup → l[i]? = some x → l[j]? = some x → i = j
  | [], _, _, _, _, h, _ => absurd (get_lt h) (Nat.not_lt_zero _)
  | _ :: _, 0, 0, _, _, _, _ => rfl
  | a :: l, 0, j + 1, x, hn, hi, hj => by
    obtain rfl : a = x := Option.some.inj hi
    exact absurd (List.mem_of_getElem? (show l[j]? = some a from hj)) (List.nodup_cons.mp hn).1
  | a :: l, i + 1, 0, x, hn, hi, hj => by
    obtain rfl : a = x := Option.some.inj hj
    exact absurd (List.mem_of_getElem? (show l[i]? = some a from hi)) (List.nodup_cons.mp hn).1
  | a :: l, i + 1, j + 1, x, hn, hi, hj => by rw [nd_ix (i := i) (j := j) (List.nodup_cons.mp hn).2 hi hj]
theorem nd_of {α : Type} : ∀ {l : List α}, (∀ (i j : Nat) (x : α), l[i]? = some x → l[j]? = some x → i = j) → l.Nodup
  | [], _ => List.nodup_nil
  | a :: l, h => List.nodup_cons.mpr ⟨fun hin => by
      obtain ⟨j, hj⟩ := List.mem_iff_getElem?.mp hin
      exact absurd (h 0 (j + 1) a rfl hj) (by omega), nd_of (fun i j x hi hj => by have := h (i + 1) (j + 1) x hi hj; omega)⟩
theorem fnd_sel {f : Nat → Bool} {n : Nat} {l : List Dc} : ∀ k, k ≤ l.length → (fndJ f n k).map (fun y => l.getD y.2 dfD) = selA f 0 (l.take k)
  | 0, _ => by rw [List.take_zero]; rfl
  | k + 1, h => by
    obtain ⟨x, hx⟩ := get_ex (l := l) (k := k) (by omega)
    rw [selA_take hx, ← fnd_sel (f := f) (n := n) k (by omega), fndJ, List.map_append]
    congr 1
    cases f k with
    | false => rfl
    | true =>
      show [l.getD k dfD] = [x]
      rw [List.getD_eq_getElem?_getD, hx]; rfl
theorem dcA_sel {lv : Nat → Nat → Bool} : ∀ ids : List Nat, dcA sg (mtL sg lv ids) = ids.flatMap (fun n => selA (lv n) 0 (sg n))
  | [] => rfl
  | n :: ids => by
    have ih := dcA_sel (lv := lv) ids
    unfold dcA mtL at ih ⊢
    rw [List.flatMap_cons, List.flatMap_cons, List.map_append, ih]
    congr 1
    have h := fnd_sel (f := lv n) (n := n) (l := sg n) (sg n).length (Nat.le_refl _)
    rw [List.take_length] at h
    rw [← h]
    exact List.map_congr_left (fun y hy => by rw [(fndJ_mem hy).1])
theorem dcA_len {mp : List (Nat × Nat)} : (dcA sg mp).length = mp.length := List.length_map _
theorem dcA_get {mp : List (Nat × Nat)} {i : Nat} {d : Dc} (h : (dcA sg mp)[i]? = some d) : ∃ y, mp[i]? = some y ∧ d = (sg y.1).getD y.2 dfD := by
  unfold dcA at h
  rw [List.getElem?_map] at h
  cases e : mp[i]? with
  | none => rw [e] at h; exact absurd h (by simp)
  | some y =>
    rw [e] at h
    exact ⟨y, rfl, (Option.some.inj h).symm⟩
theorem getD_some {l : List Dc} {j : Nat} (h : j < l.length) : l[j]? = some (l.getD j dfD) := by
  obtain ⟨x, hx⟩ := get_ex h
  rw [List.getD_eq_getElem?_getD, hx]; rfl
/-- a place among those that live -/
theorem mt_get {s : Vw} {i : Nat} {y : Nat × Nat} (h : (mtL sg s.2 s.1)[i]? = some y) : y.1 ∈ s.1 ∧ s.2 y.1 y.2 = true ∧ (sg y.1)[y.2]? = some ((sg y.1).getD y.2 dfD) := by
  obtain ⟨h1, h2, h3⟩ := mtL_mem (List.mem_of_getElem? h)
  exact ⟨h1, h3, getD_some h2⟩
theorem mt_key {s : Vw} (hv : vG sg s) {i j : Nat} {y z : Nat × Nat} (hi : (mtL sg s.2 s.1)[i]? = some y) (hj : (mtL sg s.2 s.1)[j]? = some z) (e : dK ((sg y.1).getD y.2 dfD) = dK ((sg z.1).getD z.2 dfD)) : i = j ∧ y = z := by
  obtain ⟨a1, a2, a3⟩ := mt_get hi
  obtain ⟨b1, b2, b3⟩ := mt_get hj
  have h := hv.2 _ y.1 y.2 _ z.1 z.2 _ a1 b1 a3 b3 a2 b2 rfl e.symm
  have yz : y = z := Prod.ext h.1 h.2
  subst yz
  exact ⟨nd_ix (mtL_nd hv.1) hi hj, rfl⟩
theorem kd_of {s : Vw} (hv : vG sg s) : ∀ (i j : Nat) (d e : Dc), (dcA sg (mtL sg s.2 s.1))[i]? = some d → (dcA sg (mtL sg s.2 s.1))[j]? = some e → dK d = dK e → i = j := fun i j d e hi hj h => by
  obtain ⟨y, h1, rfl⟩ := dcA_get hi
  obtain ⟨z, h2, rfl⟩ := dcA_get hj
  exact (mt_key hv h1 h2 h).1
/-- what lives of a merge's segment: the class asks keys, the reference copies -/
theorem mv_lv {s : Vw} {lv : Nat → Nat → Bool} (hv : vG sg s) {j : Nat} (hj : j < (dcA sg (mtL sg s.2 s.1)).length) : lvM made (mtL sg s.2 s.1) lv made j = mvF (dcA sg (mtL sg s.2 s.1)) ((dcA sg (mtL sg (fun n j => s.2 n j && !lv n j) s.1)).map dK) j := by
  obtain ⟨d, hd⟩ := get_ex hj
  obtain ⟨y, hy, rfl⟩ := dcA_get hd
  have e1 : lvM made (mtL sg s.2 s.1) lv made j = lv y.1 y.2 := by
    unfold lvM
    rw [if_pos rfl, List.getD_eq_getElem?_getD, hy]; rfl
  have e2 : mtL sg (fun n j => s.2 n j && !lv n j) s.1 = (mtL sg s.2 s.1).filter (fun z => !lv z.1 z.2) := mtL_filter (P := fun z => !lv z.1 z.2) s.1
  unfold mvF
  rw [e1, hd, e2]
  show lv y.1 y.2 = !(((dcA sg ((mtL sg s.2 s.1).filter (fun z => !lv z.1 z.2))).map dK).contains (dK ((sg y.1).getD y.2 dfD)))
  cases c : lv y.1 y.2 with
  | false =>
    have : dK ((sg y.1).getD y.2 dfD) ∈ (dcA sg ((mtL sg s.2 s.1).filter (fun z => !lv z.1 z.2))).map dK := by
      unfold dcA
      rw [List.map_map]
      exact List.mem_map.mpr ⟨y, List.mem_filter.mpr ⟨List.mem_of_getElem? hy, by rw [c]; rfl⟩, rfl⟩
    rw [List.contains_iff_mem.mpr this]; rfl
  | true =>
    cases c2 : ((dcA sg ((mtL sg s.2 s.1).filter (fun z => !lv z.1 z.2))).map dK).contains (dK ((sg y.1).getD y.2 dfD)) with
    | false => rfl
    | true =>
      exfalso
      have hm := List.contains_iff_mem.mp c2
      unfold dcA at hm
      rw [List.map_map] at hm
      obtain ⟨z, hz, ez⟩ := List.mem_map.mp hm
      obtain ⟨z1, z2⟩ := List.mem_filter.mp hz
      obtain ⟨i, hi⟩ := List.mem_iff_getElem?.mp z1
      obtain ⟨-, rfl⟩ := mt_key hv hy hi ez.symm
      rw [c] at z2
      exact absurd z2 (by decide)
theorem cut_mem {l : List Nat} {p made n : Nat} (hp : p ≤ l.length) (h : n ∈ l.take p ++ made :: l.drop (p + 3)) : n = made ∨ ∃ a, (a < p ∨ p + 3 ≤ a) ∧ l[a]? = some n := by
  obtain ⟨a, ha⟩ := List.mem_iff_getElem?.mp h
  rcases cutM_get hp ha with ⟨h1, h2⟩ | ⟨-, h2⟩ | ⟨h1, h2⟩
  · exact Or.inr ⟨a, Or.inl h1, h2⟩
  · exact Or.inl h2
  · exact Or.inr ⟨a + 2, Or.inr (by omega), h2⟩
theorem cut_nd {l : List Nat} {p made : Nat} (hp : p ≤ l.length) (hn : l.Nodup) (hm : made ∉ l) : (l.take p ++ made :: l.drop (p + 3)).Nodup := by
  refine nd_of (fun i j x hi hj => ?_)
  have no : ∀ {a : Nat}, l[a]? = some made → False := fun h => hm (List.mem_of_getElem? h)
  rcases cutM_get hp hi with ⟨h1, h2⟩ | ⟨h1, h2⟩ | ⟨h1, h2⟩ <;> rcases cutM_get hp hj with ⟨g1, g2⟩ | ⟨g1, g2⟩ | ⟨g1, g2⟩
  · exact nd_ix hn h2 g2
  · subst g2; exact (no h2).elim
  · have := nd_ix hn h2 g2; omega
  · subst h2; exact (no g2).elim
  · omega
  · subst h2; exact (no g2).elim
  · have := nd_ix hn h2 g2; omega
  · subst g2; exact (no h2).elim
  · have := nd_ix hn h2 g2; omega
theorem cut_sub {l : List Nat} {p : Nat} : (l.take p ++ l.drop (p + 3)).Sublist l := by
  have e : (l.drop p).drop 3 = l.drop (p + 3) := by
    rw [List.drop_drop]
  have h : (l.take p ++ (l.drop p).drop 3).Sublist (l.take p ++ l.drop p) := List.Sublist.append (List.Sublist.refl _) (List.drop_sublist _ _)
  rw [e, List.take_append_drop] at h
  exact h
end PUR
section GLV
variable {S : cS} {ρ : Nat → Nat} {dp x made : Nat} {so : Nat → Nat} {sd : Nat → List Nat} {sg : Nat → List Dc} {B : List Dc} {ix : Vw} {mg : Option (Vw × Nat)} {cm pr : Option Vw} {sn : List (Nat × Vw)} {op fi w : Nat} {cc : Option Nat} {off : Bool}
theorem gVw_lv {τl τh V : Nat} {ids : List Nat} {lv lv' : Nat → Nat → Bool} (he : ∀ n, n ∈ ids → ∀ j, j < (sg n).length → lv' n j = lv n j) (g : gVw S ρ dp so sd sg τl τh V ids lv) : gVw S ρ dp so sd sg τl τh V ids lv' := by
  obtain ⟨hl, m, hs, ⟨g1, g2, g3, g4, g5⟩, rest⟩ := g
  refine ⟨hl, m, hs, ⟨g1, g2, g3, g4, fun i h n hi hn => ?_⟩, rest⟩
  obtain ⟨a1, a2, a3, r, a4⟩ := g5 i h n hi hn
  exact ⟨a1, a2, a3, r, hoT_ext a4 (fun j hj => he n (List.mem_of_getElem? hn) j hj)⟩
/-- the index's live may be told otherwise -/
theorem gIx_lv {lv' : Nat → Nat → Bool} (he : ∀ n, n ∈ ix.1 → ∀ j, j < (sg n).length → lv' n j = ix.2 n j) (g : gIx S ρ dp x so sd sg made B ix mg cm pr sn op fi w cc off) : gIx S ρ dp x so sd sg made B (ix.1, lv') mg cm pr sn op fi w cc off := by
  obtain ⟨g1, g2, g3, ⟨V, e, gv⟩, rest⟩ := g
  exact ⟨g1, g2, g3, ⟨V, e, gVw_lv he gv⟩, rest⟩
end GLV
section CASV
variable {S T U S8 : cS} {ρ ρ' : Nat → Nat} {M Am Fm Gm : List Nat} {v v' : Nat → Int32} {f f' : Nat → Nat → Int32} {g g' : Nat → Nat → Int64} {dp x out k cd dd L : Nat} {x4 : Int32} {xs : Nat → Int32} {R : Int32 → Nat → Nat → cS → (Nat → Int32) → (Nat → Nat → Int32) → (Nat → Nat → Int64) → Prop}
variable {n : Nat} {P : Nat → Nat} {ks : Nat} {A : Nat → Int64} {yn : Nat} {F G : Nat → Int64} {ad : Bool} {c0 c1 n0 : Nat} {P0 : Nat → Nat} {n1 : Nat} {P1 : Nat → Nat} {WL : List Int64} {mc ms : Nat}
variable {so : Nat → Nat} {sd : Nat → List Nat} {sg : Nat → List Dc} {made : Nat} {B : List Dc} {ix : Vw} {mg : Option (Vw × Nat)} {cm pr : Option Vw} {sn : List (Nat × Vw)} {op fi w : Nat} {cc : Option Nat} {off : Bool} {dn : Nat} {hd : Nat → Nat → Nat} {sl : Nat → Option (Nat × Vw)} {m : Nat} {nd : Nat → Nd} {qs : List (Nat × (Nat → Nd))} {w0 w1 : Nat} {H : List (Nat × Nat)} {sk tk : Nat} {CL : List (Nat × Nat × Nat)} {u : Nat} {RR : List (Nat × Nat)}
variable {n' : Nat} {P' : Nat → Nat} {m' : Nat} {nd' : Nat → Nd} {qs' : List (Nat × (Nat → Nd))}
theorem p_stepX {Q : QI} (h98 : v 98 = bI true) (hX : Q (nI 0) (upd v 99 (nI 1)) f g) : r_step Q v f g := by
  unfold r_step r_step_19 r_step_20
  rw [h98]
  exact ⟨fun _ => goF (b1 := false) ⟨fun c => absurd rfl c, fun _ => hX⟩, fun w => absurd w (by decide)⟩
theorem lc_11 (hI : Rel k S dp x out v f g cd dd) (hk : k < 512) (hN : nxR R k dp x out x4) : lw_c11 R xs L dp x out x4 cd dd S v f g := by
  unfold lw_c11
  have hx6 := Rel_x (t := nI 1) (mc := 1) (ms := 6) (by decide) (by decide) hI
  have bd := Rel_bd (by omega) hx6
  have bd0 := Rel_bd (by omega) hI
  obtain ⟨ρ, WL, n, P, ks, A, yn, F, G, ad, c0, c1, n0, P0, n1, P1, hl, hr⟩ := id hI
  obtain ⟨o, so, sd, sg, made, B, ix, mg, cm, pr, sn, op, fi, w, cc, off, dn, hd, sl, m, nd, qs, w0, w1, H, sk, tk, CL, u, RR, ⟨a1, a2⟩, ⟨a3, a4⟩, ⟨a5, a6⟩, a7, a8, a9, b1, b2, b3, b7, b8⟩ := id hr
  obtain ⟨⟨i98, i97, i96, i39, i48⟩, iB, iS, iX, iM, iC, iP, iK, iZ, iW⟩ := id a7
  obtain ⟨⟨p1, p2, p3, p4, p5⟩, p6, p7, ⟨p8, p8b, p8c, p8d⟩, p9, p10, p11, p12, p13, p14⟩ := id b1
  unfold kw_L_step
  cases off with
  | true =>
    exact ⟨1, 6, bd, hl.1.1, Or.inr ⟨1, 6, by omega, x_step a1 (Or.inl rfl) (by omega) (by omega) ⟨by omega, bd, p_stepX i98 (tl_x (by decide) bd upd_at (hN _ _ _ _ _ _ hx6))⟩⟩⟩
  | false =>
    have i97 := i97 rfl
    cases mg with
    | none =>
      refine ⟨1, 6, bd, hl.1.1, Or.inr ⟨1, 6, by omega, x_step a1 (Or.inr rfl) (by omega) (by omega) ⟨by omega, bd, ?_⟩⟩⟩
      exact p_step (p := 0) i98 i97 i96 p10 iM iS iX p1.1 (fun s c e => absurd e (by simp)) (fun _ => tl_x (by decide) bd upd_at (hN _ _ _ _ _ _ hx6)) (fun s c v' f' _ e => absurd e (by simp)) (fun s c v' _ e => absurd e (by simp)) (fun s v' f' _ e => absurd e (by simp)) (fun s c v' f' _ e => absurd e (by simp))
    | some sc =>
      obtain ⟨s0, c0⟩ := sc
      obtain ⟨fd, hfd⟩ := gFn_Fd a6
      obtain ⟨p, q1, q2, q3, q4, q5⟩ := p7 s0 c0 rfl
      have vS := p2 s0 c0 rfl
      have sM : vwM made s0 := a2.2.1 s0 rfl
      have l100 : ∀ n, n < made → (sg n).length ≤ 100 := fun n hn => (iS.2.2 n hn).2.1
      obtain ⟨mp, hmp⟩ : ∃ mp, mp = mtL sg s0.2 s0.1 := ⟨_, rfl⟩
      have lT : mp.length ≤ 100 := by
        rw [hmp, mtL_cnt]
        exact vG_len vS (fun n hn => rSg_key iS (sM n hn))
      have eL : dcA sg mp = s0.1.flatMap (fun n => selA (s0.2 n) 0 (sg n)) := by rw [hmp]; exact dcA_sel s0.1
      have dl : (dcA sg mp).length = mp.length := dcA_len
      have hmg : ∀ s c, some (s0, c0) = some (s, c) → made ≤ 200 ∧ p + 3 ≤ ix.1.length ∧ s.1.length = 3 ∧ (∀ (a n : Nat), s.1[a]? = some n → ix.1[p + a]? = some n) ∧ c ≤ (mtL sg s.2 s.1).length ∧ (mtL sg s.2 s.1).length ≤ 100 := fun s c e => by
        obtain ⟨rfl, rfl⟩ := Prod.mk.inj (Option.some.inj e)
        rw [← hmp]
        exact ⟨q5, q1, q2, q3, by rw [hmp]; exact q4, lT⟩
      have q4 : c0 ≤ mp.length := by rw [hmp]; exact q4
      have no : ¬ ((false = true) ∨ (some (s0, c0) : Option (Vw × Nat)) = none) := fun w => w.elim (fun w => absurd w (by decide)) (fun w => absurd w (by simp))
      have b7' : cd + 610 * (B.length + c0) ≤ 174 + 1170 * k := b7
      have b8' : dd + 7000 * (B.length + c0) ≤ 409927 + 13440 * k := b8
      have p142 : smN (fun n => (sg n).length) made + B.length + c0 ≤ k := p14.2
      have p141 := p14.1
      have i200 := iX.2.1
      obtain ⟨mc, hmc⟩ : ∃ mc, mc = (if c0 < mp.length then 10 else 610 * c0 + 310) := ⟨_, rfl⟩
      obtain ⟨ms, hms⟩ : ∃ ms, ms = (if c0 < mp.length then 20 else 7000 * c0 + 6010) := ⟨_, rfl⟩
      have mcA : c0 < mp.length → mc = 10 ∧ ms = 20 := fun z => by rw [hmc, hms, if_pos z, if_pos z]; exact ⟨rfl, rfl⟩
      have mcB : c0 = mp.length → mc = 610 * c0 + 310 ∧ ms = 7000 * c0 + 6010 := fun z => by rw [hmc, hms, if_neg (by omega), if_neg (by omega)]; exact ⟨rfl, rfl⟩
      have mcC : 10 ≤ mc ∧ 20 ≤ ms := by
        rcases Nat.lt_or_ge c0 mp.length with z | z
        · have := mcA z; omega
        · have := mcB (by omega); omega
      have bq : cd + mc + 610 * (B.length + (if c0 < mp.length then c0 + 1 else 0)) ≤ 174 + 1170 * (k + 1) ∧ dd + ms + 7000 * (B.length + (if c0 < mp.length then c0 + 1 else 0)) ≤ 409927 + 13440 * (k + 1) := by
        rcases Nat.lt_or_ge c0 mp.length with z | z
        · have := mcA z
          rw [if_pos z]; omega
        · have := mcB (by omega)
          rw [if_neg (by omega)]; omega
      have bd2 : cd + mc ≤ 601024 ∧ dd + ms ≤ 7293033 := by omega
      refine ⟨mc, ms, bd2, hl.1.1, Or.inl ⟨mc, ms, by omega, by omega, g_stepB (L := dcA sg mp) a1 a2 hfd p10 (by omega) p1.1 (by omega) q3 q2 q1 eL rfl (by rw [hmp]; exact kd_of vS) (by omega) (by omega) mcC.1 mcC.2 (fun z => by rw [(mcB (by omega)).1]; exact Nat.le_refl _) (fun z => by rw [(mcB (by omega)).2]; exact Nat.le_refl _) (fun T hne hlt eT gT => cls_out (by omega) (out_fr eT.1 (by decide) o) (fun S8 f90 o8 j8 => ⟨bd2, ?_⟩)) (fun T ρ' hne hc hL eT gT => cls_out (by omega) (out_fr eT.1 (by decide) o) (fun S8 f90 o8 j8 => ⟨bd2, ?_⟩)) (fun T ρ' A' ds hne hc hL eT gT => cls_out (by omega) (out_fr eT.1 (by decide) o) (fun S8 f90 o8 j8 => ⟨bd2, ?_⟩)) (fun T ρ' hc0 eT gT => cls_out (by omega) (out_fr eT.1 (by decide) o) (fun S8 f90 o8 j8 => ⟨bd2, ?_⟩))⟩⟩
      · -- a copy more
        rw [dl] at hlt j8
        refine p_step (p := p) i98 i97 i96 p10 iM iS iX p1.1 hmg (fun w => absurd w no) (fun s c v' f' _ _ w => absurd w hne) (fun s c v' _ e _ hlt' hF h99 h96 h97 hM' => ?_) (fun s v' f' _ e _ w => ?_) (fun s c v' f' _ e _ w => ?_)
        · obtain ⟨rfl, rfl⟩ := Prod.mk.inj (Option.some.inj e)
          have := mcA hlt
          have hrel : Rel (k + 1) S8 dp x out v' f g (cd + mc) (dd + ms) := Rel_I (mg' := some (s0, c0 + 1)) (w' := w + 1) (cc' := cc.map (fun k => k - 1)) hl a3 a4 a5 a6 a8 a9 b2 b3 eT gT ⟨a2.1, a2.2.1, a2.2.2.1, a2.2.2.2.1, a2.2.2.2.2⟩ f90 o8 hF (by decide) (by decide) (by decide) ⟨⟨by rw [hF.1 98 (by decide)]; exact i98, fun _ => h97, h96, by rw [hF.1 39 (by decide)]; exact i39, by rw [hF.1 48 (by decide)]; exact i48⟩, rB_f hF (by decide) (by decide) (by decide) iB, rS_f hF (by decide) (by decide) (by decide) iS, rX_f hF (by decide) (by decide) iX, hM', rC_f hF (by decide) (by decide) iC, rP_f hF (by decide) (by decide) iP, rK_f hF (by decide) iK, iZ, iW⟩ ⟨⟨p1, fun s c e => by obtain ⟨rfl, -⟩ := Prod.mk.inj (Option.some.inj e); exact vS, p3, p4, p5⟩, p6, fun s c e => by
            obtain ⟨rfl, rfl⟩ := Prod.mk.inj (Option.some.inj e)
            exact ⟨p, q1, q2, q3, by rw [← hmp]; omega, q5⟩, ⟨p8, p8b, p8c, by omega⟩, fun w => absurd w (by decide), cc_map p10, p11, p12, p13, p141, by show _ + B.length + (c0 + 1) ≤ k + 1; omega⟩ (fun _ _ => rfl) (Nat.le_refl _) (by show _ + 610 * (B.length + (c0 + 1)) ≤ _; omega) (by show _ + 7000 * (B.length + (c0 + 1)) ≤ _; omega)
          rw [← hmp]
          exact tl_ok bd2 h99 (out_X o8) j8 (hN _ _ _ _ _ _ hrel)
        · exfalso
          obtain ⟨rfl, rfl⟩ := Prod.mk.inj (Option.some.inj e)
          rw [← hmp] at w; omega
        · exfalso
          obtain ⟨rfl, rfl⟩ := Prod.mk.inj (Option.some.inj e)
          rw [← hmp] at w; omega
      · -- nothing lives
        rw [hL] at dl
        have dl : 0 = mp.length := dl
        have hc : c0 = mp.length := by omega
        refine p_step (p := p) i98 i97 i96 p10 iM iS iX p1.1 hmg (fun w => absurd w no) (fun s c v' f' _ _ w => absurd w hne) (fun s c v' _ e _ w => ?_) (fun s v' f' _ e _ _ hF h99 h96 h97 h49 hS' hX' => ?_) (fun s c v' f' _ e _ w w2 => ?_)
        · exfalso
          obtain ⟨rfl, rfl⟩ := Prod.mk.inj (Option.some.inj e)
          rw [← hmp] at w; omega
        · obtain ⟨rfl, e2⟩ := Prod.mk.inj (Option.some.inj e)
          have := mcB hc
          have hrel : Rel (k + 1) S8 dp x out v' f' g (cd + mc) (dd + ms) := Rel_I (ix' := (ix.1.take p ++ ix.1.drop (p + 3), ix.2)) (mg' := none) (w' := w + 1) (cc' := cc.map (fun k => k - 1)) hl a3 a4 a5 a6 a8 a9 b2 b3 eT gT ⟨fun n hn => a2.1 n (cut_sub.subset hn), fun w e => absurd e (by simp), a2.2.2.1, a2.2.2.2.1, a2.2.2.2.2⟩ f90 o8 hF (by decide) (by decide) (by decide) ⟨⟨by rw [hF.1 98 (by decide)]; exact i98, fun _ => h97, h96, by rw [hF.1 39 (by decide)]; exact i39, by rw [hF.1 48 (by decide)]; exact i48⟩, rB_f hF (by decide) (by decide) (by decide) iB, hS', hX', ⟨h49, fun s c e => absurd e (by simp)⟩, rC_f hF (by decide) (by decide) iC, rP_f hF (by decide) (by decide) iP, rK_f hF (by decide) iK, ⟨rZ_f hF (by decide) iZ.1, rZ_f hF (by decide) iZ.2.1, rZ_f hF (by decide) iZ.2.2.1, rZ_f hF (by decide) iZ.2.2.2.1, rZ_f hF (by decide) iZ.2.2.2.2⟩, ⟨fun n hn j hj => by rw [hF.2.1 22 (by decide)]; exact iW.1 n (cut_sub.subset hn) j hj, fun p' e => ⟨fun n hn j hj => by rw [hF.2.1 23 (by decide)]; exact (iW.2 p' e).1 n hn j hj, fun n hn => (iW.2 p' e).2 n (cut_sub.subset hn)⟩⟩⟩ ⟨⟨vG_sub p1 cut_sub, fun s c e => absurd e (by simp), p3, p4, p5⟩, ⟨p6.1, fun d hd n j d' hn => p6.2 d hd n j d' (cut_sub.subset hn)⟩, fun s c e => absurd e (by simp), ⟨p8, p8b, p8c, by omega⟩, fun w => absurd w (by decide), cc_map p10, p11, p12, p13, p141, by show _ + B.length + 0 ≤ k + 1; omega⟩ (fun _ _ => rfl) (Nat.le_refl _) (by show _ + 610 * (B.length + 0) ≤ _; omega) (by show _ + 7000 * (B.length + 0) ≤ _; omega)
          exact tl_ok bd2 h99 (out_X o8) j8 (hN _ _ _ _ _ _ hrel)
        · exfalso
          obtain ⟨rfl, rfl⟩ := Prod.mk.inj (Option.some.inj e)
          rw [← hmp] at w; omega
      · -- a segment more
        rw [dl] at hc
        have ne0 : mp.length ≠ 0 := fun z => hL (List.eq_nil_of_length_eq_zero (by omega))
        refine p_step (p := p) i98 i97 i96 p10 iM iS iX p1.1 hmg (fun w => absurd w no) (fun s c v' f' _ _ w => absurd w hne) (fun s c v' _ e _ w => ?_) (fun s v' f' _ e _ w => ?_) (fun s c v' f' _ e _ _ _ hF hz1 hz2 h99 h96 h97 h49 hS' hX' h22 hold => ?_)
        · exfalso
          obtain ⟨rfl, rfl⟩ := Prod.mk.inj (Option.some.inj e)
          rw [← hmp] at w; omega
        · exfalso
          obtain ⟨rfl, rfl⟩ := Prod.mk.inj (Option.some.inj e)
          rw [← hmp] at w; omega
        obtain ⟨rfl, rfl⟩ := Prod.mk.inj (Option.some.inj e)
        rw [← hmp] at hS' hX'
        have := mcB hc
        have sgo : ∀ n, n < made → upR sg made (dcA sg mp) n = sg n := fun n hn => upR_n (by omega)
        have sB : upR sg made (dcA sg mp) made = dcA sg mp := upR_s
        obtain ⟨w1', w2'⟩ := iW
        have nm : ∀ s : Vw, vwM made s → made ∉ s.1 := fun s hs hin => absurd (hs _ hin) (Nat.lt_irrefl _)
        have ncm : made ∉ ovL cm := by
          cases cm with
          | none => exact List.not_mem_nil
          | some s => exact nm s (a2.2.2.1 s rfl)
        have lift : ∀ {s : Vw}, vwM made s → vwM (made + 1) s := fun h n hn => by have := h n hn; omega
        have vx : ∀ {s : Vw}, vwM made s → vG sg s → vG (upR sg made (dcA sg mp)) s := fun h q => vG_ext (fun n hn => sgo n (h n hn)) q
        have mem : ∀ n, n ∈ ix.1.take p ++ made :: ix.1.drop (p + 3) → n = made ∨ ∃ a, (a < p ∨ p + 3 ≤ a) ∧ ix.1[a]? = some n := fun n hn => cut_mem (by omega) hn
        have mem2 : ∀ n, n ∈ ix.1.take p ++ made :: ix.1.drop (p + 3) → n ≠ made → n ∈ ix.1 := fun n hn hne => (mem n hn).elim (fun e => absurd e hne) (fun ⟨a, _, ha⟩ => List.mem_of_getElem? ha)
        have srcI : ∀ n, n ∈ s0.1 → ∃ a, a < 3 ∧ ix.1[p + a]? = some n := fun n hn => by
          obtain ⟨a, ha⟩ := List.mem_iff_getElem?.mp hn
          exact ⟨a, by have := get_lt ha; omega, q3 a n ha⟩
        -- where a document of the new index came from
        have pre : ∀ n j d, n ∈ ix.1.take p ++ made :: ix.1.drop (p + 3) → (upR sg made (dcA sg mp) n)[j]? = some d → lvM made mp ix.2 n j = true → ∃ y : Nat × Nat, y.1 ∈ ix.1 ∧ (sg y.1)[y.2]? = some d ∧ ix.2 y.1 y.2 = true ∧ ((n = made ∧ mp[j]? = some y ∧ y.1 ∈ s0.1) ∨ (n ≠ made ∧ y = (n, j) ∧ ∃ a, (a < p ∨ p + 3 ≤ a) ∧ ix.1[a]? = some n)) := fun n j d hn hd hlv => by
          by_cases e : n = made
          · subst e
            rw [sB] at hd
            obtain ⟨y, hy, ed⟩ := dcA_get hd
            have hy' := hy
            rw [hmp] at hy'
            obtain ⟨m1, m2, m3⟩ := mt_get hy'
            have hlv' : ix.2 y.1 y.2 = true := by
              have h := hlv
              unfold lvM at h
              rw [if_pos rfl, List.getD_eq_getElem?_getD, hy] at h
              exact h
            obtain ⟨a, _, ha⟩ := srcI y.1 m1
            exact ⟨y, List.mem_of_getElem? ha, by rw [ed]; exact m3, hlv', Or.inl ⟨rfl, hy, m1⟩⟩
          · have hin := mem2 n hn e
            rw [sgo n (a2.1 n hin)] at hd
            have hlv' : ix.2 n j = true := by
              have h := hlv
              unfold lvM at h
              rwa [if_neg e] at h
            exact ⟨(n, j), hin, hd, hlv', Or.inr ⟨e, rfl, (mem n hn).elim (fun z => absurd z e) id⟩⟩
        have vI : vG (upR sg made (dcA sg mp)) (ix.1.take p ++ made :: ix.1.drop (p + 3), lvM made mp ix.2) := by
          refine ⟨cut_nd (by omega) p1.1 (nm ix a2.1), fun key n j d n' j' d' h1 h2 h3 h4 h5 h6 h7 h8 => ?_⟩
          obtain ⟨y, y1, y2, y3, y4⟩ := pre n j d h1 h3 h5
          obtain ⟨z, z1, z2, z3, z4⟩ := pre n' j' d' h2 h4 h6
          obtain ⟨e1, e2⟩ := p1.2 key y.1 y.2 d z.1 z.2 d' y1 z1 y2 z2 y3 z3 h7 h8
          have yz : y = z := Prod.ext e1 e2
          subst yz
          rcases y4 with ⟨c1, c2, c3⟩ | ⟨c1, c2, a, c3, c4⟩ <;> rcases z4 with ⟨d1, d2, d3⟩ | ⟨d1, d2, a', d3, d4⟩
          · exact ⟨c1.trans d1.symm, by rw [hmp] at c2 d2; exact nd_ix (mtL_nd vS.1) c2 d2⟩
          · exfalso
            obtain ⟨b, hb, hb2⟩ := srcI y.1 c3
            rw [d2] at hb2
            have := nd_ix p1.1 hb2 d4
            omega
          · exfalso
            obtain ⟨b, hb, hb2⟩ := srcI y.1 d3
            rw [c2] at hb2
            have := nd_ix p1.1 hb2 c4
            omega
          · have := c2.symm.trans d2
            exact ⟨congrArg Prod.fst this, congrArg Prod.snd this⟩
        have gT2 := gIx_lv (lv' := lvM made mp ix.2) (fun n hn j hj => ?_) gT
        · have hrel : Rel (k + 1) S8 dp x out v' f' g (cd + mc) (dd + ms) := by
            refine Rel_I (so' := upR so made A') (sd' := upR sd made ds) (sg' := upR sg made (dcA sg mp)) (made' := made + 1) (B' := B) (ix' := (ix.1.take p ++ made :: ix.1.drop (p + 3), lvM made mp ix.2)) (mg' := none) (sn' := sn) (sl' := sl) (dn' := dn) (hd' := hdM made mp hd) (w' := w + 1) (cc' := cc.map (fun k => k - 1)) hl a3 a4 a5 a6 a8 a9 b2 b3 eT gT2 ⟨fun n hn => ?_, fun w e => absurd e (by simp), fun s e => lift (a2.2.2.1 s e), fun s e => lift (a2.2.2.2.1 s e), fun s hs => lift (a2.2.2.2.2 s hs)⟩ f90 o8 hF (by decide) (by decide) (by decide) ⟨⟨by rw [hF.1 98 (by decide)]; exact i98, fun _ => h97, h96, by rw [hF.1 39 (by decide)]; exact i39, by rw [hF.1 48 (by decide)]; exact i48⟩, rB_f hF (by decide) (by decide) (by decide) iB, hS', hX', ⟨h49, fun s c e => absurd e (by simp)⟩, rOv_up (rC_f hF (by decide) (by decide) iC) (by omega) sgo, rOv_up (rP_f hF (by decide) (by decide) iP) (by omega) sgo, rLk_up (rK_f hF (by decide) iK) (by omega) sgo, ⟨fun c hc => hz1 c (iZ.1 c hc), fun c hc => hz2 c (iZ.2.1 c hc), rZ_f hF (by decide) iZ.2.2.1, rZ_f hF (by decide) iZ.2.2.2.1, rZ_f hF (by decide) iZ.2.2.2.2⟩, ⟨fun n hn j hj => ?_, fun p' e => ⟨fun n hn j hj => ?_, fun n hn hnp => ?_⟩⟩⟩ ⟨⟨vI, fun s c e => absurd e (by simp), fun s e => vx (a2.2.2.1 s e) (p3 s e), fun s e => vx (a2.2.2.2.1 s e) (p4 s e), fun s hs => vx (a2.2.2.2.2 s hs) (p5 s hs)⟩, ⟨p6.1, fun d hd n j d' h1 h2 h3 => ?_⟩, fun s c e => absurd e (by simp), ⟨p8, p8b, p8c, by omega⟩, fun w => absurd w (by decide), cc_map p10, fun z => ?_, ⟨fun n hn d hd => ?_, p12.2⟩, p13, by omega, ?_⟩ sgo (by omega) ?_ ?_
            · rcases mem n hn with h | ⟨a, _, h⟩
              · omega
              · have := a2.1 n (List.mem_of_getElem? h); omega
            · by_cases e : n = made
              · subst e
                rw [sB] at hj
                rw [h22 j (by omega)]
                cases pr with
                | none => show bI true = bI (wbs cm n j); unfold wbs; rw [if_neg ncm]
                | some p' => show bI true = bI (if n ∈ p'.1 then p'.2 n j else wbs cm n j); rw [if_neg (nm p' (a2.2.2.2.1 p' rfl))]; unfold wbs; rw [if_neg ncm]
              · have hin := mem2 n hn e
                have hlt' := a2.1 n hin
                rw [sgo n hlt'] at hj
                have := l100 n hlt'
                rw [(hold (100 * n + j) (by omega)).2]
                exact w1' n hin j hj
            · rw [sgo n (a2.2.2.2.1 p' e n hn)] at hj
              rw [hF.2.1 23 (by decide)]
              exact (w2' p' e).1 n hn j hj
            · by_cases e2 : n = made
              · rw [e2]; exact ncm
              · exact (w2' p' e).2 n (mem2 n hn e2) hnp
            · obtain ⟨y, y1, y2, y3, _⟩ := pre n j d' h1 h2 h3
              exact p6.2 d hd y.1 y.2 d' y1 y2 y3
            · exfalso
              have := (p11 z).2
              obtain ⟨a, ha⟩ := get_ex (l := ix.1) (k := 0) (by omega)
              have := a2.1 a (List.mem_of_getElem? ha)
              omega
            · rcases Nat.lt_or_ge n made with z | z
              · rw [sgo n z] at hd
                exact p12.1 n z d hd
              · rw [show n = made by omega, sB] at hd
                obtain ⟨j, hj⟩ := List.mem_iff_getElem?.mp hd
                obtain ⟨y, hy, ed⟩ := dcA_get hj
                rw [hmp] at hy
                obtain ⟨m1, m2, m3⟩ := mt_get hy
                rw [← ed] at m3
                exact p12.1 y.1 (sM y.1 m1) d (List.mem_of_getElem? m3)
            · have e1 : smN (fun n => (upR sg made (dcA sg mp) n).length) (made + 1) = smN (fun n => (sg n).length) made + mp.length := by
                rw [smN, sB, dl]
                congr 1
                exact smN_ext (fun n hn => by rw [sgo n hn])
              show smN (fun n => (upR sg made (dcA sg mp) n).length) (made + 1) + B.length + 0 ≤ k + 1
              rw [e1]
              omega
            · show _ + 610 * (B.length + 0) ≤ _; omega
            · show _ + 7000 * (B.length + 0) ≤ _; omega
          exact tl_ok bd2 h99 (out_X o8) j8 (hN _ _ _ _ _ _ hrel)
        · by_cases e : n = made
          · subst e
            rw [sB] at hj
            have h := mv_lv (made := n) (lv := ix.2) vS (j := j) (by rw [← hmp]; exact hj)
            rw [← hmp] at h
            rw [h]
            show _ = (if n = n then _ else _)
            rw [if_pos rfl, dcA_sel]
          · show (if n = made then _ else ix.2 n j) = (if n = made then _ else ix.2 n j)
            rw [if_neg e, if_neg e]
      · -- down
        refine p_step (p := p) i98 i97 i96 p10 iM iS iX p1.1 hmg (fun w => absurd w no) (fun s c v' f' _ _ _ hF h99 hD => ?_) (fun s c v' _ e w => absurd hc0 w) (fun s v' f' _ e w => absurd hc0 w) (fun s c v' f' _ e w => absurd hc0 w)
        have hrel : Rel (k + 1) S8 dp x out v' f' g (cd + mc) (dd + ms) := Rel_D hl a3 a4 a5 a6 a8 a9 b2 b3 hfd eT gT a2.2.2.1 f90 o8 hF (by decide) (by decide) (by decide) hD (by rw [hF.1 96 (by decide)]; exact i96) (by rw [hF.1 39 (by decide)]; exact i39) (by rw [hF.1 48 (by decide)]; exact i48) (rS_f hF (by decide) (by decide) (by decide) iS) (rC_f hF (by decide) (by decide) iC) (rZ_f hF (by decide) iZ.1) (rZ_f hF (by decide) iZ.2.1) (rZ_f hF (by decide) iZ.2.2.1) iZ.2.2.2.1 iZ.2.2.2.2 p3 (by omega) (fun z => (p11 z).2) p12.1 p13 ⟨p141, by omega⟩ (by omega) (by omega)
        exact tl_ok bd2 h99 (out_X o8) j8 (hN _ _ _ _ _ _ hrel)
end CASV
