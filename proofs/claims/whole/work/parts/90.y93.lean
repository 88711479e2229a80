/-! the reference: segments that differ are written -/
/-- how many of some segments differ from what was written -/
def dfN (sg : Nat → List Dc) (lv wr : Nat → Nat → Bool) (l : List Nat) : Nat := sumL (fun n => if (!allB (fun j => lv n j == wr n j) (sg n).length) = true then 1 else 0) l
section P8
variable {v v' : Nat → Int32} {f f' : Nat → Nat → Int32} {g g' : Nat → Nat → Int64} {l : LGt} {made dn w : Nat} {sg : Nat → List Dc} {hd : Nat → Nat → Nat} {ids : List Nat} {lv wr : Nat → Nat → Bool} {cc : Option Nat}
theorem p_prep88 {Q : QI} (h97 : v 97 = cIn cc) (h96 : v 96 = nI w) (hcc : ∀ k, cc = some k → k ≤ 1000) (hs : rSg l v f g made dn sg hd) (hi : rIx v f made sg ids lv) (hnd : ids.Nodup) (hwr : ∀ n, n ∈ ids → ∀ j, j < (sg n).length → f 22 (100 * n + j) = bI (wr n j)) (hz : zRw f 21 20200)
    (hC : ∀ c v' f', cc = some c → c ≤ dfN sg lv wr ids → rF [96, 97, 98, 20, 49, 40, 85, 88, 89, 90, 34] [29, 22] [] v f g v' f' g → v' 96 = nI (w + c) → v' 97 = nI 0 → rDn v' f' → zK f f' 22 → Q (-2) v' f' g)
    (hS : ∀ v' f', (∀ c, cc = some c → dfN sg lv wr ids < c) → rF [96, 97, 42, 40] [22, 27, 28] [] v f g v' f' g → v' 96 = nI (w + (dfN sg lv wr ids + 1)) → v' 97 = cIn (cc.map (fun m => m - (dfN sg lv wr ids + 1))) → rOv v' f' 40 42 27 28 made sg (some (ids, lv)) → zRw f' 28 20200 → (∀ n, n ∈ ids → ∀ j, j < (sg n).length → f' 22 (100 * n + j) = bI (lv n j)) → zK f f' 22 → Q (nI ids.length) v' f' g) : r_prepare_88L Q (nI 0) v f g := by
  obtain ⟨i1, i2, i3, i4⟩ := id hi
  have m201 := hs.1.2
  have cmap : ∀ a : Nat, (cc.map (fun m => m - a)).map (fun m => m - 1) = cc.map (fun m => m - (a + 1)) := fun a => by
    cases cc with
    | none => rfl
    | some m => show some (m - a - 1) = some (m - (a + 1)); congr 1
  have cle : ∀ {a m : Nat}, cc.map (fun m => m - a) = some m → m ≤ 1000 := fun {a m} h => by
    cases hc : cc with
    | none => rw [hc] at h; exact absurd h (by simp)
    | some k =>
      rw [hc] at h
      have e : k - a = m := Option.some.inj h
      have := hcc k hc
      omega
  have czero : ∀ {a : Nat}, (∀ c, cc = some c → a ≤ c) → cc.map (fun m => m - a) = some 0 → cc = some a := fun {a} h1 h => by
    cases hc : cc with
    | none => rw [hc] at h; exact absurd h (by simp)
    | some k =>
      rw [hc] at h
      have e : k - a = 0 := Option.some.inj h
      have := h1 k hc
      rw [show k = a by omega]
  unfold r_prepare_88L
  refine lfp_cnt ids.length (fun k y => ∃ v1 f1, (∀ i, i ≠ 96 → i ≠ 97 → v1 i = v i) ∧ v1 96 = nI (w + dfN sg lv wr (ids.take k)) ∧ v1 97 = cIn (cc.map (fun m => m - dfN sg lv wr (ids.take k))) ∧ (∀ c, cc = some c → dfN sg lv wr (ids.take k) ≤ c) ∧ (∀ m, m ≠ 22 → f1 m = f m) ∧ (∀ n, n ∈ ids.take k → ∀ j, j < (sg n).length → f1 22 (100 * n + j) = bI (lv n j)) ∧ (∀ n, n ∈ ids → n ∉ ids.take k → ∀ j, j < (sg n).length → f1 22 (100 * n + j) = bI (wr n j)) ∧ zK f f1 22 ∧ y = (nI k, v1, f1, g)) ?_ ⟨v, f, fun _ _ _ => rfl, h96, by rw [h97]; cases cc <;> rfl, fun c _ => Nat.zero_le c, fun _ _ => rfl, fun n hn => absurd hn List.not_mem_nil, fun n hn _ j hj => hwr n hn j hj, zK_rf, rfl⟩
  rintro P k _ hk ⟨v1, f1, a1, a2, a3, a4, a5, a6, a7, a8, rfl⟩ ih
  show r_prepare_88 Q _ (nI k) v1 f1 g
  obtain ⟨D, hD⟩ : ∃ D, D = dfN sg lv wr (ids.take k) := ⟨_, rfl⟩
  rw [← hD] at a2 a3 a4
  unfold r_prepare_88
  rw [a1 34 (by decide) (by decide), i1, nI_clamp (show k < 2 ^ 31 by omega), a5 24 (by decide)]
  refine pk_le ids.length k (fun z => ?_) (fun z => ⟨pk_in k 202 (by omega), ?_⟩)
  · obtain rfl : k = ids.length := by omega
    rw [List.take_length] at a6 hD
    refine p_writes1 (cc := cc.map (fun m => m - D)) (w := w + D) a3 a2 (fun m hm => cle hm) (fun hne v2 o2 w2 c2 => ⟨fun _ => ?_, fun c => absurd c (by decide)⟩) (fun hz0 v2 f2 hF hDn => ⟨fun c => absurd rfl c, fun _ => ?_⟩)
    · rintro v4 e4
      have v234 : v2 34 = nI ids.length := (o2 34 (by decide) (by decide)).trans ((a1 34 (by decide) (by decide)).trans i1)
      rw [v234] at e4
      have v4o : ∀ i, i ≠ 42 → v4 i = v2 i := fun i hi => by rw [e4, upd_n hi]
      have v442 : v4 42 = nI ids.length := by rw [e4]; exact upd_at
      have hi4 : rIx v4 f1 made sg ids lv := rIx_fr ((v4o 34 (by decide)).trans ((o2 34 (by decide) (by decide)).trans (a1 34 (by decide) (by decide)))) (a5 24 (by decide)) (a5 21 (by decide)) hi
      have hz4 : zRw f1 21 20200 := fun c hc => by rw [a5 21 (by decide)]; exact hz c hc
      refine p_prep198 v442 hi4 hz4 (fun n hn => ⟨by omega, (hs.2.2 n hn).2.1⟩) (fun v5 f5 hF5 ho5 hz5 => ?_)
      rw [hD] at hne c2 w2 a4
      refine hS v5 f5 (fun c hc => ?_) ⟨fun i hi' => ?_, fun m hm => ?_, fun _ _ => rfl⟩ ?_ ?_ ho5 hz5 (fun n hn j hj => ?_) (zK_tr a8 (zK_eq (hF5.2.1 22 (by decide))))
      · have h1 := a4 c hc
        have : c ≠ dfN sg lv wr ids := fun e => hne (by rw [hc, e]; show some (dfN sg lv wr ids - dfN sg lv wr ids) = some 0; rw [Nat.sub_self])
        omega
      · rw [hF5.1 i (fun q => hi' (by rw [List.mem_singleton.mp q]; decide)), v4o i (fun e => hi' (by rw [e]; decide)), o2 i (fun e => hi' (by rw [e]; decide)) (fun e => hi' (by rw [e]; decide))]
        exact a1 i (fun e => hi' (by rw [e]; decide)) (fun e => hi' (by rw [e]; decide))
      · rw [hF5.2.1 m (fun q => hm (by revert q; simp only [List.mem_cons, List.not_mem_nil, or_false]; omega))]
        exact a5 m (fun e => hm (by rw [e]; decide))
      · rw [hF5.1 96 (by decide), v4o 96 (by decide), w2, Nat.add_assoc]
      · rw [hF5.1 97 (by decide), v4o 97 (by decide), c2, cmap]
      · rw [hF5.2.1 22 (by decide)]; exact a6 n hn j hj
    · have hcD := czero a4 hz0
      refine hC D v2 f2 hcD (by omega) ⟨fun i hi' => ?_, fun m hm => ?_, fun _ _ => rfl⟩ ((hF.1 96 (by decide)).trans a2) ?_ hDn (zK_tr a8 (zK_eq (hF.2.1 22 (by decide))))
      · rw [hF.1 i (fun q => hi' (by revert q; simp only [List.mem_cons, List.not_mem_nil, or_false]; omega))]
        exact a1 i (fun e => hi' (by rw [e]; decide)) (fun e => hi' (by rw [e]; decide))
      · rw [hF.2.1 m (fun q => hm (by rw [List.mem_singleton.mp q]; decide))]
        exact a5 m (fun e => hm (by rw [e]; decide))
      · rw [hF.1 97 (by decide), a3, hz0]; rfl
  obtain ⟨n, hn⟩ := get_ex z
  have hnm := List.mem_of_getElem? hn
  obtain ⟨t1, t2⟩ := i3 k n hn
  obtain ⟨u1, u2, -⟩ := hs.2.2 n t2
  have nin : n ∉ ids.take k := fun q => by
    obtain ⟨a, ha⟩ := List.getElem?_of_mem q
    have al := get_lt ha
    rw [List.length_take] at al
    rw [List.getElem?_take, if_pos (by omega)] at ha
    have := (List.getElem?_inj (i := a) (j := k) (by omega) hnd).mp (ha.trans hn.symm)
    omega
  have tk : ∀ m, m ∈ ids.take (k + 1) ↔ m ∈ ids.take k ∨ m = n := fun m => by
    rw [List.take_add_one, hn, List.mem_append]
    exact or_congr Iff.rfl List.mem_singleton
  have dS : dfN sg lv wr (ids.take (k + 1)) = D + (if (!allB (fun j => lv n j == wr n j) (sg n).length) = true then 1 else 0) := by rw [hD]; exact sumL_takeG hn
  have dT : dfN sg lv wr (ids.take (k + 1)) ≤ dfN sg lv wr ids := by
    have e : dfN sg lv wr ids = dfN sg lv wr (ids.take (k + 1)) + dfN sg lv wr (ids.drop (k + 1)) := by
      unfold dfN
      rw [← sumL_app, List.take_append_drop]
    omega
  rw [t1]
  refine p_differs (by omega) u2 ((congrFun (a5 20 (by decide)) n).trans u1) (fun j hj => by rw [a5 21 (by decide)]; exact i4 n hnm j hj) (a7 n hnm nin) (w_b0 (!allB (fun j => lv n j == wr n j) (sg n).length) (fun e => ?_) (fun e => ?_))
  · have e' : allB (fun j => lv n j == wr n j) (sg n).length = true := by rwa [Bool.not_eq_false'] at e
    rw [e, if_neg (by decide), Nat.add_zero] at dS
    unfold r_prepare_172
    rintro _ rfl
    rw [nI_add]
    refine ih _ z ⟨v1, f1, a1, by rw [dS]; exact a2, by rw [dS]; exact a3, by rw [dS]; exact a4, a5, fun m hm j hj => ?_, fun m hm hno => a7 m hm (fun q => hno ((tk m).mpr (Or.inl q))), a8, rfl⟩
    rcases (tk m).mp hm with q | q
    · exact a6 m q j hj
    · rw [q] at hj ⊢
      rw [a7 n hnm nin j hj, show wr n j = lv n j from (beq_iff_eq.mp (allB_iff.mp e' j hj)).symm]
  · rw [e, if_pos rfl] at dS
    refine p_writes1 (cc := cc.map (fun m => m - D)) (w := w + D) a3 a2 (fun m hm => cle hm) (fun hne v2 o2 w2 c2 => ⟨fun _ => ⟨pk_in k 202 (by omega), ?_⟩, fun c => absurd c (by decide)⟩) (fun hz0 v2 f2 hF hDn => ⟨fun c => absurd rfl c, fun _ => ?_⟩)
    · rw [a5 24 (by decide), t1, pk_mul]
      rintro _ rfl
      refine p_prep129 (a := lv n) (by omega) (by omega) u2 ((congrFun (a5 24 (by decide)) k).trans t1) ((congrFun (a5 20 (by decide)) n).trans u1) (fun j hj => by rw [a5 21 (by decide)]; exact i4 n hnm j hj) (fun f3 b1 b2 b3 b4 => ?_)
      unfold r_prepare_172
      rintro _ rfl
      rw [nI_add]
      have oth : ∀ m, m ∈ ids → m ≠ n → ∀ j, j < (sg m).length → f3 22 (100 * m + j) = f1 22 (100 * m + j) := fun m hm hne' j hj => b3 _ (fun i hi' => by
        obtain ⟨a, ha⟩ := List.getElem?_of_mem hm
        have := (hs.2.2 m (i3 a m ha).2).2.1
        omega)
      refine ih _ z ⟨v2, f3, fun i h1 h2 => (o2 i h1 h2).trans (a1 i h1 h2), by rw [dS, w2, Nat.add_assoc], by rw [dS, c2, cmap], fun c hc => ?_, fun m hm => (b1 m hm).trans (a5 m hm), fun m hm j hj => ?_, fun m hm hno j hj => ?_, zK_tr a8 b4, rfl⟩
      · rw [dS]
        have h1 := a4 c hc
        have : c ≠ D := fun e => hne (by rw [hc, e]; show some (D - D) = some 0; rw [Nat.sub_self])
        omega
      · by_cases q : m = n
        · rw [q] at hj ⊢; exact b2 j hj
        · have q2 := ((tk m).mp hm).resolve_right q
          rw [oth m (List.mem_of_mem_take q2) q j hj]; exact a6 m q2 j hj
      · have q : m ≠ n := fun w => hno ((tk m).mpr (Or.inr w))
        rw [oth m hm q j hj]
        exact a7 m hm (fun w => hno ((tk m).mpr (Or.inl w))) j hj
    · have hcD := czero a4 hz0
      refine hC D v2 f2 hcD (by omega) ⟨fun i hi' => ?_, fun m hm => ?_, fun _ _ => rfl⟩ ((hF.1 96 (by decide)).trans a2) ?_ hDn (zK_tr a8 (zK_eq (hF.2.1 22 (by decide))))
      · rw [hF.1 i (fun q => hi' (by revert q; simp only [List.mem_cons, List.not_mem_nil, or_false]; omega))]
        exact a1 i (fun e => hi' (by rw [e]; decide)) (fun e => hi' (by rw [e]; decide))
      · rw [hF.2.1 m (fun q => hm (by rw [List.mem_singleton.mp q]; decide))]
        exact a5 m (fun e => hm (by rw [e]; decide))
      · rw [hF.1 97 (by decide), a3, hz0]; rfl
end P8
