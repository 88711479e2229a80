/-! the reference: step -/
section ST
variable {v v' : Nat → Int32} {f f' : Nat → Nat → Int32} {g g' : Nat → Nat → Int64} {l : LGt} {made dn w : Nat} {sg : Nat → List Dc} {hd : Nat → Nat → Nat} {ids : List Nat} {lv : Nat → Nat → Bool} {cc : Option Nat} {off : Bool} {mg : Option (Vw × Nat)}
theorem rF_99 {A Fm Gm : List Nat} {t : Int32} (h : rF A Fm Gm (upd v 99 t) f g v' f' g') : rF (99 :: A) Fm Gm v f g v' f' g' := ⟨fun i hi => (h.1 i (fun q => hi (List.mem_cons_of_mem _ q))).trans (upd_n (fun e => hi (by rw [e]; exact List.mem_cons_self))), h.2.1, h.2.2⟩
theorem rMg_fr (h1 : v' 49 = v 49) (h2 : v' 52 = v 52) (h3 : v' 53 = v 53) (h4 : f' 33 = f 33) (h5 : f' 34 = f 34) (h : rMg v f sg mg) : rMg v' f' sg mg := by
  unfold rMg
  rw [h1, h2, h3, h4, h5]; exact h
theorem p_step {Q : QI} {p : Nat} (h98 : v 98 = bI off) (h97 : v 97 = cIn cc) (h96 : v 96 = nI w) (hcc : ∀ k, cc = some k → k ≤ 1000) (hm : rMg v f sg mg) (hs : rSg l v f g made dn sg hd) (hi : rIx v f made sg ids lv) (hnd : ids.Nodup) (hmg : ∀ s c, mg = some (s, c) → made ≤ 200 ∧ p + 3 ≤ ids.length ∧ s.1.length = 3 ∧ (∀ (a n : Nat), s.1[a]? = some n → ids[p + a]? = some n) ∧ c ≤ (mtL sg s.2 s.1).length ∧ (mtL sg s.2 s.1).length ≤ 100) (hX : off = true ∨ mg = none → Q (nI 0) (upd v 99 (nI 1)) f g)
    (h0 : ∀ s c v' f', off = false → mg = some (s, c) → cc = some 0 → rF [99, 98, 20, 49, 40, 85, 88, 89, 90, 34] [29] [] v f g v' f' g → v' 99 = nI 0 → rDn v' f' → Q (-2) v' f' g)
    (h1 : ∀ s c v', off = false → mg = some (s, c) → cc ≠ some 0 → c < (mtL sg s.2 s.1).length → rF [99, 96, 97, 53] [] [] v f g v' f g → v' 99 = nI 0 → v' 96 = nI (w + 1) → v' 97 = cIn (cc.map (fun k => k - 1)) → rMg v' f sg (some (s, c + 1)) → Q (nI ((mtL sg s.2 s.1).length - (c + 1))) v' f g)
    (h2 : ∀ s v' f', off = false → mg = some (s, 0) → cc ≠ some 0 → (mtL sg s.2 s.1).length = 0 → rF [99, 96, 97, 34, 49] [24] [] v f g v' f' g → v' 99 = nI 0 → v' 96 = nI (w + 1) → v' 97 = cIn (cc.map (fun k => k - 1)) → v' 49 = bI false → rSg l v' f' g made dn sg hd → rIx v' f' made sg (ids.take p ++ ids.drop (p + 3)) lv → Q (-1) v' f' g)
    (h3 : ∀ s c v' f', off = false → mg = some (s, c) → cc ≠ some 0 → c = (mtL sg s.2 s.1).length → 0 < c → rF [99, 96, 97, 34, 29, 49] [19, 20, 21, 22, 24] [] v f g v' f' g → zK f f' 21 → zK f f' 22 → v' 99 = nI 0 → v' 96 = nI (w + 1) → v' 97 = cIn (cc.map (fun k => k - 1)) → v' 49 = bI false → rSg l v' f' g (made + 1) dn (upR sg made (dcA sg (mtL sg s.2 s.1))) (hdM made (mtL sg s.2 s.1) hd) → rIx v' f' (made + 1) (upR sg made (dcA sg (mtL sg s.2 s.1))) (ids.take p ++ made :: ids.drop (p + 3)) (lvM made (mtL sg s.2 s.1) lv) → (∀ j, j < c → f' 22 (100 * made + j) = bI true) → (∀ e, e < 100 * made → f' 21 e = f 21 e ∧ f' 22 e = f 22 e) → Q (-1) v' f' g) : r_step Q v f g := by
  have no : (off = true ∨ mg = none) → r_step_19 Q v f g := by
    intro h
    unfold r_step_19 r_step_20
    exact goF (b1 := false) ⟨fun c => absurd rfl c, fun _ => hX h⟩
  unfold r_step
  rw [h98, hm.1]
  refine w_bn off (fun e => no (Or.inl e)) (fun e => w_b0 mg.isSome (fun e2 => no (Or.inr ?_)) (fun e2 => ?_))
  · cases mg with
    | none => rfl
    | some m => exact absurd e2 (by simp)
  cases hmg' : mg with
  | none => rw [hmg'] at e2; exact absurd e2 (by simp)
  | some m =>
    obtain ⟨s, c⟩ := m
    obtain ⟨g1, g2, g3, g4, g5, g6⟩ := hmg s c hmg'
    rw [hmg'] at hm
    obtain ⟨m52, m53, m33, m34⟩ := hm.2 s c rfl
    unfold r_step_20
    refine goF (b1 := true) ⟨fun _ => ?_, fun c => absurd c (by decide)⟩
    refine p_writes1 (cc := cc) (w := w) ((upd_n (by decide)).trans h97) ((upd_n (by decide)).trans h96) hcc (fun hne v2 o2 w2 c2 => ⟨fun _ => ?_, fun c => absurd c (by decide)⟩) (fun hz v2 f2 hF hD => ⟨fun c => absurd rfl c, fun _ => h0 s c v2 f2 e hmg' hz (rF_99 hF) ((hF.1 99 (by decide)).trans upd_at) hD⟩)
    have o3 : ∀ i, i ≠ 99 → i ≠ 96 → i ≠ 97 → v2 i = v i := fun i a1 a2 a3 => (o2 i a2 a3).trans (upd_n a1)
    have v299 : v2 99 = nI 0 := (o2 99 (by decide) (by decide)).trans upd_at
    have e52 : v2 52 = nI (mtL sg s.2 s.1).length := (o3 52 (by decide) (by decide) (by decide)).trans m52
    have e53 : v2 53 = nI c := (o3 53 (by decide) (by decide) (by decide)).trans m53
    have hF2 : rF [99, 96, 97] [] [] v f g v2 f g := ⟨fun i hi => o3 i (fun e => hi (by rw [e]; decide)) (fun e => hi (by rw [e]; decide)) (fun e => hi (by rw [e]; decide)), fun _ _ => rfl, fun _ _ => rfl⟩
    rw [e52, e53]
    refine pk_le (mtL sg s.2 s.1).length c (fun z => ?_) (fun z => ?_)
    · have ec : c = (mtL sg s.2 s.1).length := by omega
      have hm2 : rMg v2 f sg (some (s, c)) := rMg_fr (o3 49 (by decide) (by decide) (by decide)) (o3 52 (by decide) (by decide) (by decide)) (o3 53 (by decide) (by decide) (by decide)) rfl rfl hm
      have hs2 := rSg_fr hF2 (by decide) (by decide) (by decide) hs
      have hi2 : rIx v2 f made sg ids lv := rIx_fr (o3 34 (by decide) (by decide) (by decide)) rfl rfl hi
      refine p_ends1 hm2 hs2 hi2 g1 hnd g2 g3 g4 ec (by omega) (fun c0 v3 f3 hF h49 hS hI => ?_) (fun c0 v3 f3 hF hZ1 hZ2 h49 hS hI h22 hO => ?_)
      · subst c0
        exact h2 s v3 f3 e hmg' hne ec.symm (rF_tr (rF_wk hF2 (by decide) (by decide) (by decide)) (rF_wk hF (by decide) (by decide) (by decide))) ((hF.1 99 (by decide)).trans v299) ((hF.1 96 (by decide)).trans w2) ((hF.1 97 (by decide)).trans c2) h49 hS hI
      · exact h3 s c v3 f3 e hmg' hne ec c0 (rF_tr (rF_wk hF2 (by decide) (by decide) (by decide)) (rF_wk hF (by decide) (by decide) (by decide))) hZ1 hZ2 ((hF.1 99 (by decide)).trans v299) ((hF.1 96 (by decide)).trans w2) ((hF.1 97 (by decide)).trans c2) h49 hS hI h22 hO
    · rw [nI_add]
      rintro v4 e4
      have v453 : v4 53 = nI (c + 1) := by rw [e4]; exact upd_at
      have v452 : v4 52 = nI (mtL sg s.2 s.1).length := by rw [e4, upd_n (by decide)]; exact e52
      rw [v452, v453, pk_sub (by omega)]
      have v4o : ∀ i, i ≠ 53 → v4 i = v2 i := fun i hi => by rw [e4, upd_n hi]
      refine h1 s c v4 e hmg' hne z ⟨fun i hi => ?_, fun _ _ => rfl, fun _ _ => rfl⟩ ((v4o 99 (by decide)).trans v299) ((v4o 96 (by decide)).trans w2) ((v4o 97 (by decide)).trans c2) ⟨(v4o 49 (by decide)).trans ((o3 49 (by decide) (by decide) (by decide)).trans hm.1), fun s' c' hsc => ?_⟩
      · rw [v4o i (fun e => hi (by rw [e]; decide))]
        exact o3 i (fun e => hi (by rw [e]; decide)) (fun e => hi (by rw [e]; decide)) (fun e => hi (by rw [e]; decide))
      · have := Option.some.inj hsc
        obtain ⟨rfl, rfl⟩ : s = s' ∧ c + 1 = c' := ⟨congrArg Prod.fst this, congrArg Prod.snd this⟩
        exact ⟨v452, v453, m33, m34⟩
end ST
