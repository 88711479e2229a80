/-! the reference: flush, due, merge, giveUp -/
theorem mtL_mono {sg : Nat → List Dc} {f : Nat → Nat → Bool} {l : List Nat} (i : Nat) : (mtL sg f (l.take i)).length ≤ (mtL sg f l).length := by
  have e : mtL sg f l = mtL sg f (l.take i) ++ mtL sg f (l.drop i) := by
    unfold mtL
    rw [← List.flatMap_append, List.take_append_drop]
  rw [e, List.length_append]; omega
theorem fndJ_mono {f : Nat → Bool} {n j : Nat} : ∀ d, (fndJ f n j).length ≤ (fndJ f n (j + d)).length
  | 0 => Nat.le_refl _
  | d + 1 => by
    have := fndJ_mono (f := f) (n := n) (j := j) d
    rw [← Nat.add_assoc, fndJ, List.length_append]; omega
/-- a merge under way -/
def rMg (v : Nat → Int32) (f : Nat → Nat → Int32) (sg : Nat → List Dc) (mg : Option (Vw × Nat)) : Prop := v 49 = bI mg.isSome ∧ ∀ s c, mg = some (s, c) → v 52 = nI (mtL sg s.2 s.1).length ∧ v 53 = nI c ∧ (∀ k n, s.1[k]? = some n → f 33 k = nI n) ∧ ∀ q y, (mtL sg s.2 s.1)[q]? = some y → f 34 q = nI (100 * y.1 + y.2)
section ME
variable {v v' : Nat → Int32} {f f' : Nat → Nat → Int32} {g g' : Nat → Nat → Int64} {l : LGt} {B : List Dc} {made dn w : Nat} {sg : Nat → List Dc} {hd : Nat → Nat → Nat} {ids : List Nat} {lv : Nat → Nat → Bool} {cc : Option Nat} {off : Bool} {mg : Option (Vw × Nat)}
theorem p_tier {Q : QI} {k n : Nat} (hs : rSg l v f g made dn sg hd) (hi : rIx v f made sg ids lv) (hk : ids[k]? = some n) (h : Q (nI (tierN (sg n).length)) v f g) : r_tier Q (nI k) v f g := by
  have kl := get_lt hk
  have i2 := hi.2.1
  obtain ⟨t1, t2⟩ := hi.2.2.1 k n hk
  obtain ⟨u1, u2, -⟩ := hs.2.2 n t2
  have m201 := hs.1.2
  unfold r_tier
  rw [nI_clamp (show k < 2 ^ 31 by omega), t1, nI_clamp (show n < 2 ^ 31 by omega), u1]
  refine ⟨pk_in k 202 (by omega), pk_in n 202 (by omega), ?_⟩
  rintro _ rfl
  unfold r_tier_14L
  refine lfp_ind (I := fun y => ∃ j x, j + tierN x = tierN (sg n).length ∧ x ≤ 100 ∧ y = (nI j, nI x, v, f, g)) (μ := fun y => y.2.1.toNatClampNeg) ?_ ⟨0, (sg n).length, Nat.zero_add _, u2, rfl⟩
  rintro P _ ⟨j, x, e, hx, rfl⟩ ih
  show r_tier_14 Q _ (nI j) (nI x) v f g
  unfold r_tier_14
  refine pk_lt x 3 (fun z => ?_) (fun z => ?_)
  · have : tierN x = 0 := if_pos z
    rw [this, Nat.add_zero] at e
    rw [e]; exact h
  · rw [nI_add, pk_div (by omega) (by decide) (by decide)]
    rintro _ rfl _ rfl
    have := tier_s z hx
    refine ih _ ⟨j + 1, x / 3, by omega, by omega, rfl⟩ ?_
    show (nI (x / 3)).toNatClampNeg < (nI x).toNatClampNeg
    rw [nI_clamp (by omega), nI_clamp (by omega)]; omega
theorem tierN_lt (n : Nat) : tierN n < 5 := by
  unfold tierN
  repeat' split
  all_goals omega
theorem p_dueAt {Q : QI} (hs : rSg l v f g made dn sg hd) (hi : rIx v f made sg ids lv) (h1 : ∀ k, k + 2 < ids.length → dueI sg ids k → (∀ i, i < k → ¬ dueI sg ids i) → Q (nI k) v f g) (h2 : (∀ i, ¬ dueI sg ids i) → Q (-1) v f g) : r_dueAt Q v f g := by
  have i2 := hi.2.1
  unfold r_dueAt r_dueAt_2L
  refine lfp_cnt ids.length (fun k y => (∀ i, i < k → ¬ dueI sg ids i) ∧ y = (nI k, v, f, g)) ?_ ⟨fun i hi => absurd hi (Nat.not_lt_zero i), rfl⟩
  rintro P k _ hk ⟨hno, rfl⟩ ih
  show r_dueAt_2 Q _ (nI k) v f g
  unfold r_dueAt_2
  rw [hi.1, nI_add, nI_add]
  refine pk_le ids.length (k + 2) (fun z => ?_) (fun z => ?_)
  · refine h2 (fun i hdue => ?_)
    by_cases c : i < k
    · exact hno i c hdue
    · obtain ⟨a, b, c', -, -, h3, -⟩ := hdue
      have := get_lt h3
      omega
  · obtain ⟨a, ha⟩ := get_ex (l := ids) (k := k) (by omega)
    obtain ⟨b, hb⟩ := get_ex (l := ids) (k := k + 1) (by omega)
    obtain ⟨c, hc⟩ := get_ex z
    have next : ¬ dueI sg ids k → r_dueAt_44 Q (fun b0 v f g => P (b0, v, f, g)) (nI k) v f g := by
      intro hne
      unfold r_dueAt_44
      rintro _ rfl
      rw [nI_add]
      refine ih _ (by omega) ⟨fun i hi => ?_, rfl⟩
      by_cases e : i = k
      · subst e; exact hne
      · exact hno i (by omega)
    have ta := tierN_lt (sg a).length
    have tb := tierN_lt (sg b).length
    have tc := tierN_lt (sg c).length
    have same : dueI sg ids k → tierN (sg b).length = tierN (sg a).length ∧ tierN (sg c).length = tierN (sg a).length := fun ⟨a', b', c', x1, x2, x3, x4, x5⟩ => by
      obtain rfl := Option.some.inj (ha.symm.trans x1)
      obtain rfl := Option.some.inj (hb.symm.trans x2)
      obtain rfl := Option.some.inj (hc.symm.trans x3)
      exact ⟨x4, x5⟩
    refine p_tier hs hi ha (p_tier hs hi hb (w_ne (tierN (sg a).length) (tierN (sg b).length) (fun e => next (fun d => e (same d).1.symm)) (fun e => p_tier hs hi ha (p_tier hs hi hc (w_ne (tierN (sg a).length) (tierN (sg c).length) (fun e2 => next (fun d => e2 (same d).2.symm)) (fun e2 => ?_))))))
    exact h1 k z ⟨a, b, c, ha, hb, hc, e.symm, e2.symm⟩ hno
theorem goF {Q : QI} {b1 : Bool} {v : Nat → Int32} {f : Nat → Nat → Int32} {g : Nat → Nat → Int64} (h : Q (bI b1) (upd v 99 (if b1 = true then nI 0 else nI 1)) f g) : r_goes Q (bI b1) (nI 1) (nI 1) v f g := by
  refine p_goes (b2 := true) (b3 := true) ?_
  cases b1 <;> exact h
theorem rSg_99 {t : Int32} (hs : rSg l v f g made dn sg hd) : rSg l (upd v 99 t) f g made dn sg hd := rSg_fr (A := [99]) (Fm := []) (Gm := []) ⟨fun i hi => upd_n (fun e => hi (by rw [e]; decide)), fun _ _ => rfl, fun _ _ => rfl⟩ (by decide) (by decide) (by decide) hs
theorem rIx_99 {t : Int32} (hi : rIx v f made sg ids lv) : rIx (upd v 99 t) f made sg ids lv := rIx_fr (upd_n (by decide)) rfl rfl hi
theorem rBf_99 {t : Int32} (hb : rBf l v f g B) : rBf l (upd v 99 t) f g B := rBf_fr (upd_n (by decide)) rfl rfl rfl rfl rfl hb
theorem p_due {Q : QI} (h98 : v 98 = bI off) (hs : rSg l v f g made dn sg hd) (hi : rIx v f made sg ids lv) (h0 : off = true → Q (nI 0) (upd v 99 (nI 1)) f g) (h1 : ∀ k, off = false → dueI sg ids k → (∀ i, i < k → ¬ dueI sg ids i) → Q (nI k) (upd v 99 (nI 0)) f g) (h2 : off = false → (∀ i, ¬ dueI sg ids i) → Q (-1) (upd v 99 (nI 0)) f g) : r_due Q v f g := by
  have go : ∀ b : Bool, b = !off → r_due_13 Q (bI b) v f g := by
    intro b hb
    unfold r_due_13
    refine goF ?_
    cases off with
    | true => rw [hb]; exact ⟨fun _ => h0 rfl, fun c => absurd rfl c⟩
    | false => rw [hb]; exact ⟨fun c => absurd c (by decide), fun _ => p_dueAt (rSg_99 hs) (rIx_99 hi) (fun k _ hk hm => h1 k rfl hk hm) (fun hno => h2 rfl hno)⟩
  unfold r_due
  rw [h98]
  exact w_bn off (fun e => go false (by rw [e]; rfl)) (fun e => go true (by rw [e]; rfl))
theorem p_giveUp {Q : QI} (h98 : v 98 = bI off) (hm : rMg v f sg mg) (h0 : off = true ∨ mg = none → Q (nI 0) (upd v 99 (nI 1)) f g) (h1 : ∀ s c, off = false → mg = some (s, c) → Q (nI c) (upd (upd v 99 (nI 0)) 49 (bI false)) f g) : r_giveUp Q v f g := by
  have no : (off = true ∨ mg = none) → r_giveUp_19 Q v f g := by
    intro h
    unfold r_giveUp_19 r_giveUp_20
    exact goF (b1 := false) ⟨fun c => absurd rfl c, fun _ => h0 h⟩
  unfold r_giveUp
  rw [h98, hm.1]
  refine w_bn off (fun e => no (Or.inl e)) (fun e => w_b0 mg.isSome (fun e2 => no (Or.inr ?_)) (fun e2 => ?_))
  · cases mg with
    | none => rfl
    | some m => exact absurd e2 (by simp)
  · cases hmg : mg with
    | none => rw [hmg] at e2; exact absurd e2 (by simp)
    | some m =>
      obtain ⟨s, c⟩ := m
      unfold r_giveUp_20
      refine goF (b1 := true) ⟨fun _ => ?_, fun c => absurd c (by decide)⟩
      rintro _ rfl
      have e53 : upd (upd v 99 (if true = true then nI 0 else nI 1)) 49 (bI false) 53 = nI c := by
        rw [upd_n (by decide), upd_n (by decide)]
        exact (hm.2 s c hmg).2.1
      rw [e53]
      exact h1 s c e hmg
theorem p_flush {Q : QI} (h98 : v 98 = bI off) (h97 : v 97 = cIn cc) (h96 : v 96 = nI w) (hc : ∀ k, cc = some k → k ≤ 1000) (hb : rBf l v f g B) (hs : rSg l v f g made dn sg hd) (hi : rIx v f made sg ids lv) (hl : made < 200 → ids.length < 200) (hX : off = true ∨ 200 ≤ made → Q (nI 0) (upd v 99 (nI 1)) f g) (h0 : off = false → B = [] → Q (-1) (upd v 99 (nI 0)) f g) (h1 : ∀ j v' f', off = false → B ≠ [] → j ≤ B.length → cc = some j → rF [99, 96, 97, 98, 20, 49, 40, 85, 88, 89, 90, 34] [29] [] v f g v' f' g → v' 99 = nI 0 → v' 96 = nI (w + j) → v' 97 = nI 0 → rDn v' f' → Q (-2) v' f' g) (h2 : ∀ v' f' g', off = false → B ≠ [] → (∀ k, cc = some k → B.length < k) → rF [99, 96, 97, 20, 26, 29, 34] [14, 15, 16, 18, 19, 20, 21, 22, 24] [17] v f g v' f' g' → zK f f' 21 → zK f f' 22 → v' 99 = nI 0 → v' 96 = nI (w + (B.length + 1)) → v' 97 = cIn (cc.map (fun k => k - (B.length + 1))) → v' 20 = nI 0 → rSg l v' f' g' (made + 1) (dn + B.length) (sgF made sg B) (hdF made dn hd) → rIx v' f' (made + 1) (sgF made sg B) (ids ++ [made]) (lvF made lv) → (∀ j, j < B.length → f' 22 (100 * made + j) = bI true) → (∀ c, c < 100 * made → f' 21 c = f 21 c ∧ f' 22 c = f 22 c) → Q (nI made) v' f' g') : r_flush Q v f g := by
  have m201 := hs.1.2
  have no : (off = true ∨ 200 ≤ made) → r_flush_22 Q v f g := by
    intro h
    unfold r_flush_22 r_flush_23
    exact goF (b1 := false) ⟨fun _ => hX h, fun c => absurd rfl c⟩
  unfold r_flush
  rw [h98, hs.1.1]
  refine w_bn off (fun e => no (Or.inl e)) (fun e => pk_le 200 made (fun z => no (Or.inr z)) (fun z => ?_))
  unfold r_flush_23
  refine goF (b1 := true) ⟨fun c => absurd c (by decide), fun _ => ?_⟩
  have t99 : ∀ {A : List Nat} {Fm Gm : List Nat} {v' : Nat → Int32} {f' : Nat → Nat → Int32} {g' : Nat → Nat → Int64} {t : Int32}, rF A Fm Gm (upd v 99 t) f g v' f' g' → rF (99 :: A) Fm Gm v f g v' f' g' := fun h => ⟨fun i hi => (h.1 i (fun q => hi (List.mem_cons_of_mem _ q))).trans (upd_n (fun e => hi (by rw [e]; exact List.mem_cons_self))), h.2.1, h.2.2⟩
  refine p_flushes (v := upd v 99 (nI 0)) ((upd_n (by decide)).trans h97) ((upd_n (by decide)).trans h96) hc (rBf_99 hb) (rSg_99 hs) (rIx_99 hi) (fun _ => by omega) (fun _ => hl z) (h0 e) (fun j v' f' hB hj hcj hF hw hcr hD => h1 j v' f' e hB hj hcj (t99 hF) ((hF.1 99 (by decide)).trans upd_at) hw hcr hD) (fun v' f' g' hB hcc hF hZ1 hZ2 hw hcr h20 hS hI h22 hO => h2 v' f' g' e hB hcc (t99 hF) hZ1 hZ2 ((hF.1 99 (by decide)).trans upd_at) hw hcr h20 hS hI h22 hO)
end ME
