/-! the reference: prepare -/
theorem zRw_K {f f' : Nat → Nat → Int32} {n N : Nat} (h : zK f f' n) (g : zRw f n N) : zRw f' n N := fun k hk => h k (g k hk)
theorem zRw_e {f f' : Nat → Nat → Int32} {n N : Nat} (h : f' n = f n) (g : zRw f n N) : zRw f' n N := fun k hk => by rw [h]; exact g k hk
theorem lvF_o {made n j : Nat} {lv : Nat → Nat → Bool} (h : n ≠ made) : lvF made lv n j = lv n j := if_neg h
theorem lvF_m {made j : Nat} {lv : Nat → Nat → Bool} : lvF made lv made j = true := if_pos rfl
section PB
variable {v v' : Nat → Int32} {f f' : Nat → Nat → Int32} {g g' : Nat → Nat → Int64} {l : LGt} {B : List Dc} {made dn w : Nat} {sg : Nat → List Dc} {hd : Nat → Nat → Nat} {ids : List Nat} {lv wr : Nat → Nat → Bool} {cc : Option Nat} {off : Bool} {pr : Option Vw}
theorem p_prepB {Q : QI} (h97 : v 97 = cIn cc) (h96 : v 96 = nI w) (hcc : ∀ k, cc = some k → k ≤ 1000) (hs : rSg l v f g made dn sg hd) (hi : rIx v f made sg ids lv) (hnd : ids.Nodup) (hwr : ∀ n, n ∈ ids → ∀ j, j < (sg n).length → f 22 (100 * n + j) = bI (wr n j)) (hz1 : zRw f 21 20200) (hz2 : zRw f 22 20200)
    (hC : ∀ c v' f', cc = some c → c ≤ dfN sg lv wr ids → rF [96, 97, 98, 20, 49, 40, 85, 88, 89, 90, 34] [29, 22, 23] [] v f g v' f' g → v' 96 = nI (w + c) → rDn v' f' → zK f f' 22 → zRw f' 23 20200 → Q (-2) v' f' g)
    (hS : ∀ v' f', (∀ c, cc = some c → dfN sg lv wr ids < c) → rF [96, 97, 42, 40] [22, 23, 27, 28] [] v f g v' f' g → v' 96 = nI (w + (dfN sg lv wr ids + 1)) → v' 97 = cIn (cc.map (fun m => m - (dfN sg lv wr ids + 1))) → rOv v' f' 40 42 27 28 made sg (some (ids, lv)) → zRw f' 28 20200 → zRw f' 23 20200 → (∀ n, n ∈ ids → ∀ j, j < (sg n).length → f' 22 (100 * n + j) = bI (lv n j)) → (∀ n, n ∈ ids → ∀ j, j < (sg n).length → f' 23 (100 * n + j) = bI (wr n j)) → zK f f' 22 → Q (nI ids.length) v' f' g) : r_prepare_61L Q (nI 0) v f g := by
  have m201 := hs.1.2
  refine p_prep61 hz2 (fun f1 a1 a2 => ?_)
  have F1 : rF [] [23] [] v f g v f1 g := ⟨fun _ _ => rfl, fun n hn => a1 n (fun e => hn (by rw [e]; decide)), fun _ _ => rfl⟩
  have hs1 : rSg l v f1 g made dn sg hd := rSg_fr F1 (by decide) (by decide) (by decide) hs
  have hi1 : rIx v f1 made sg ids lv := rIx_fr rfl (a1 24 (by decide)) (a1 21 (by decide)) hi
  have h23 : ∀ n, n ∈ ids → ∀ j, j < (sg n).length → f1 23 (100 * n + j) = bI (wr n j) := fun n hn j hj => by
    obtain ⟨k, hk⟩ := List.getElem?_of_mem hn
    have nl := (hi.2.2.1 k n hk).2
    have := (hs.2.2 n nl).2.1
    rw [a2 _ (by omega)]; exact hwr n hn j hj
  have z23 : zRw f1 23 20200 := fun c hc => by rw [a2 c hc]; exact hz2 c hc
  have e22 : f1 22 = f 22 := a1 22 (by decide)
  refine p_prep88 (wr := wr) h97 h96 hcc hs1 hi1 hnd (fun n hn j hj => by rw [e22]; exact hwr n hn j hj) (zRw_e (a1 21 (by decide)) hz1) (fun c v' f' hc hcd hF hw hz hD hk => ?_) (fun v' f' hc hF hw hw2 ho hz8 hw22 hk => ?_)
  · exact hC c v' f' hc hcd (rF_tr (rF_wk F1 (by decide) (by decide) (by decide)) (rF_wk hF (by decide) (by decide) (by decide))) hw hD (zK_tr (zK_eq e22) hk) (zRw_e (hF.2.1 23 (by decide)) z23)
  · exact hS v' f' hc (rF_tr (rF_wk F1 (by decide) (by decide) (by decide)) (rF_wk hF (by decide) (by decide) (by decide))) hw hw2 ho hz8 (zRw_e (hF.2.1 23 (by decide)) z23) hw22 (fun n hn j hj => by rw [hF.2.1 23 (by decide)]; exact h23 n hn j hj) (zK_tr (zK_eq e22) hk)
theorem p_prepare {Q : QI} (h98 : v 98 = bI off) (h97 : v 97 = cIn cc) (h96 : v 96 = nI w) (hcc : ∀ k, cc = some k → k ≤ 1000) (hb : rBf l v f g B) (hs : rSg l v f g made dn sg hd) (hi : rIx v f made sg ids lv) (hnd : ids.Nodup) (h40 : v 40 = bI pr.isSome) (hl : made < 200 → ids.length < 200) (hwr : ∀ n, n ∈ ids → ∀ j, j < (sg n).length → f 22 (100 * n + j) = bI (wr n j)) (hz1 : zRw f 21 20200) (hz2 : zRw f 22 20200) (hX : off = true ∨ pr ≠ none ∨ (200 ≤ made ∧ B ≠ []) → Q (nI 0) (upd v 99 (nI 1)) f g)
    (hD1 : ∀ j v' f', off = false → pr = none → (made < 200 ∨ B = []) → B ≠ [] → j ≤ B.length → cc = some j → rF [99, 96, 97, 98, 20, 49, 40, 85, 88, 89, 90, 34] [29] [] v f g v' f' g → v' 99 = nI 0 → v' 96 = nI (w + j) → rDn v' f' → Q (-2) v' f' g)
    (hD2 : ∀ made' sg' ix' w' cc' dn' hd' c v' f' g', off = false → pr = none → (made < 200 ∨ B = []) → flS made sg B (ids, lv) w cc = (made', sg', ix', w', cc') → (B ≠ [] → ∀ k, cc = some k → B.length < k) → cc' = some c → c ≤ dfN sg' ix'.2 (lvF made wr) ix'.1 → rF [99, 96, 97, 98, 20, 49, 40, 85, 88, 89, 90, 34, 26, 29] [29, 22, 23, 14, 15, 16, 18, 19, 20, 21, 24] [17] v f g v' f' g' → v' 99 = nI 0 → v' 96 = nI (w' + c) → rDn v' f' → rSg l v' f' g' made' dn' sg' hd' → zK f f' 21 → zK f f' 22 → zRw f' 23 20200 → Q (-2) v' f' g')
    (hS : ∀ made' sg' ix' w' cc' dn' hd' v' f' g', off = false → pr = none → (made < 200 ∨ B = []) → flS made sg B (ids, lv) w cc = (made', sg', ix', w', cc') → (B ≠ [] → ∀ k, cc = some k → B.length < k) → (∀ c, cc' = some c → dfN sg' ix'.2 (lvF made wr) ix'.1 < c) → rF [99, 96, 97, 42, 40, 20, 26, 29, 34] [22, 23, 27, 28, 14, 15, 16, 18, 19, 20, 21, 24] [17] v f g v' f' g' → v' 99 = nI 0 → v' 96 = nI (w' + (dfN sg' ix'.2 (lvF made wr) ix'.1 + 1)) → v' 97 = cIn (cc'.map (fun m => m - (dfN sg' ix'.2 (lvF made wr) ix'.1 + 1))) → v' 20 = nI 0 → rSg l v' f' g' made' dn' sg' hd' → rIx v' f' made' sg' ix'.1 ix'.2 → rOv v' f' 40 42 27 28 made' sg' (some ix') → zRw f' 28 20200 → zRw f' 23 20200 → (∀ n, n ∈ ix'.1 → ∀ j, j < (sg' n).length → f' 22 (100 * n + j) = bI (ix'.2 n j)) → (∀ n, n ∈ ix'.1 → ∀ j, j < (sg' n).length → f' 23 (100 * n + j) = bI (lvF made wr n j)) → zK f f' 21 → zK f f' 22 → Q (nI ix'.1.length) v' f' g') : r_prepare Q v f g := by
  have m201 := hs.1.2
  have hb20 := hb.1
  have hb12 := hb.2.1
  have no : (off = true ∨ pr ≠ none ∨ (200 ≤ made ∧ B ≠ [])) → r_prepare_36 Q v f g := by
    intro h
    unfold r_prepare_36 r_prepare_37
    exact goF (b1 := false) ⟨fun c => absurd rfl c, fun _ => hX h⟩
  have idl : ∀ n, n ∈ ids → n < made := fun n hn => by
    obtain ⟨k, hk⟩ := List.getElem?_of_mem hn
    exact (hi.2.2.1 k n hk).2
  have yes : off = false → pr = none → (made < 200 ∨ B = []) → r_prepare_37 Q (nI 1) v f g := by
    intro e1 e2 e3
    unfold r_prepare_37
    refine goF (b1 := true) ⟨fun _ => ?_, fun c => absurd c (by decide)⟩
    have g99 : upd v 99 (nI 0) 99 = nI 0 := upd_at
    refine p_flushes (v := upd v 99 (nI 0)) ((upd_n (by decide)).trans h97) ((upd_n (by decide)).trans h96) hcc (rBf_99 hb) (rSg_99 hs) (rIx_99 hi) (fun q => by have := e3.resolve_right q; omega) (fun q => hl (e3.resolve_right q)) (fun eB => ⟨fun _ => ?_, fun c => absurd c (by decide)⟩) (fun j v' f' hB hj hcj hF hw hcr hD => ⟨fun c => absurd rfl c, fun _ => hD1 j v' f' e1 e2 e3 hB hj hcj (rF_99 hF) ((hF.1 99 (by decide)).trans upd_at) hw hD⟩) (fun v1 f1 g1 hB hc1 hF hZ1 hZ2 hw hcr h20 hS1 hI1 h22 hO => ?_)
    · subst eB
      have fl : flS made sg [] (ids, lv) w cc = (made, sg, (ids, lv), w, cc) := rfl
      refine p_prepB (v := upd v 99 (nI 0)) (wr := lvF made wr) (cc := cc) (w := w) ((upd_n (by decide)).trans h97) ((upd_n (by decide)).trans h96) hcc (rSg_99 hs) (rIx_99 hi) hnd (fun n hn j hj => by rw [lvF_o (by have := idl n hn; omega)]; exact hwr n hn j hj) hz1 hz2 (fun c v' f' hc hcd hF hw hD hk z23 => ?_) (fun v' f' hc hF hw hw2 ho hz8 z23 hw22 hw23 hk => ?_)
      · exact hD2 made sg (ids, lv) w cc dn hd c v' f' g e1 e2 e3 fl (fun q => absurd rfl q) hc hcd (rF_wk (rF_99 hF) (by decide) (by decide) (by decide)) ((hF.1 99 (by decide)).trans upd_at) hw hD (rSg_fr (rF_99 hF) (by decide) (by decide) (by decide) hs) (zK_eq (hF.2.1 21 (by decide))) hk z23
      · exact hS made sg (ids, lv) w cc dn hd v' f' g e1 e2 e3 fl (fun q => absurd rfl q) hc (rF_wk (rF_99 hF) (by decide) (by decide) (by decide)) ((hF.1 99 (by decide)).trans upd_at) hw hw2 ((hF.1 20 (by decide)).trans ((upd_n (by decide)).trans hb20)) (rSg_fr (rF_99 hF) (by decide) (by decide) (by decide) hs) (rIx_fr ((hF.1 34 (by decide)).trans (upd_n (by decide))) (hF.2.1 24 (by decide)) (hF.2.1 21 (by decide)) hi) ho hz8 z23 hw22 hw23 (zK_eq (hF.2.1 21 (by decide))) hk
    · have ne2 : ¬ nI made = -2 := fun e => by
        have : (nI made).toInt = (-2 : Int32).toInt := congrArg Int32.toInt e
        rw [nI_toInt (by omega)] at this
        revert this
        show ((made : Int) = -2) → False
        omega
      refine ⟨fun _ => ?_, fun c => absurd c ne2⟩
      cases B with
      | nil => exact absurd rfl hB
      | cons d B' =>
        have fl : flS made sg (d :: B') (ids, lv) w cc = (made + 1, sgF made sg (d :: B'), (ids ++ [made], lvF made lv), w + ((d :: B').length + 1), cc.map (fun k => k - ((d :: B').length + 1))) := rfl
        have F1 := rF_99 hF
        have hnd1 : (ids ++ [made]).Nodup := by
          rw [List.nodup_append]
          refine ⟨hnd, by simp, fun a ha b hb2 e => ?_⟩
          have := idl a ha
          rw [List.mem_singleton] at hb2
          omega
        have sgo : ∀ n, n < made → sgF made sg (d :: B') n = sg n := fun n hn => upR_n (by omega)
        have wr1 : ∀ n, n ∈ ids ++ [made] → ∀ j, j < (sgF made sg (d :: B') n).length → f1 22 (100 * n + j) = bI (lvF made wr n j) := fun n hn j hj => by
          rcases List.mem_append.mp hn with q | q
          · have nl := idl n q
            rw [sgo n nl] at hj
            have := (hs.2.2 n nl).2.1
            rw [lvF_o (by omega), (hO _ (by omega)).2]; exact hwr n q j hj
          · rw [List.mem_singleton] at q
            subst q
            rw [show sgF n sg (d :: B') n = d :: B' from upR_s] at hj
            rw [lvF_m]; exact h22 j hj
        have cc1 : ∀ k, cc.map (fun k => k - ((d :: B').length + 1)) = some k → k ≤ 1000 := fun k hk => by
          cases e : cc with
          | none => rw [e] at hk; exact absurd hk (by simp)
          | some m =>
            rw [e] at hk
            have e' : m - ((d :: B').length + 1) = k := Option.some.inj hk
            have := hcc m e
            omega
        have t99 : v1 99 = nI 0 := (hF.1 99 (by decide)).trans upd_at
        refine p_prepB (v := v1) (wr := lvF made wr) (cc := cc.map (fun k => k - ((d :: B').length + 1))) (w := w + ((d :: B').length + 1)) hcr hw cc1 hS1 hI1 hnd1 wr1 (zRw_K hZ1 hz1) (zRw_K hZ2 hz2) (fun c v' f' hc hcd hF2 hw2 hD hk z23 => ?_) (fun v' f' hc hF2 hw2 hw3 ho hz8 z23 hw22 hw23 hk => ?_)
        · exact hD2 _ _ _ _ _ _ _ c v' f' g1 e1 e2 e3 fl (fun _ => hc1) hc hcd (rF_tr (rF_wk F1 (by decide) (by decide) (by decide)) (rF_wk hF2 (by decide) (by decide) (by decide))) ((hF2.1 99 (by decide)).trans t99) hw2 hD (rSg_fr hF2 (by decide) (by decide) (by decide) hS1) (zK_tr hZ1 (zK_eq (hF2.2.1 21 (by decide)))) (zK_tr hZ2 hk) z23
        · exact hS _ _ _ _ _ _ _ v' f' g1 e1 e2 e3 fl (fun _ => hc1) hc (rF_tr (rF_wk F1 (by decide) (by decide) (by decide)) (rF_wk hF2 (by decide) (by decide) (by decide))) ((hF2.1 99 (by decide)).trans t99) hw2 hw3 ((hF2.1 20 (by decide)).trans h20) (rSg_fr hF2 (by decide) (by decide) (by decide) hS1) (rIx_fr (hF2.1 34 (by decide)) (hF2.2.1 24 (by decide)) (hF2.2.1 21 (by decide)) hI1) ho hz8 z23 hw22 hw23 (zK_tr hZ1 (zK_eq (hF2.2.1 21 (by decide)))) (zK_tr hZ2 hk)
  unfold r_prepare
  rw [h98, h40, hs.1.1, hb20]
  refine w_bn off (fun e => no (Or.inl e)) (fun e => w_bn pr.isSome (fun e2 => no (Or.inr (Or.inl ?_))) (fun e2 => ?_))
  · intro c; rw [c] at e2; exact absurd e2 (by simp)
  · have pN : pr = none := by
      cases pr with
      | none => rfl
      | some m => exact absurd e2 (by simp)
    refine pk_lt made 200 (fun z => yes e pN (Or.inl z)) (fun z => w_nz B.length (fun c => no (Or.inr (Or.inr ⟨z, fun q => by rw [q] at c; exact absurd c (by decide)⟩))) (fun c => yes e pN (Or.inr (List.length_eq_zero_iff.mp c))))
end PB
