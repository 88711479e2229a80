/-! the reference: a key is deleted -/
theorem era_get2 {α : Type} {l : List α} {k j : Nat} {z : α} (h : (l.eraseIdx k)[j]? = some z) : (j < k ∧ l[j]? = some z) ∨ (k ≤ j ∧ l[j + 1]? = some z) := by
  rw [List.getElem?_eraseIdx] at h
  split at h
  · exact Or.inl ⟨by assumption, h⟩
  · exact Or.inr ⟨by omega, h⟩
theorem upd_at {v : Nat → Int32} {k : Nat} {x : Int32} : upd v k x k = x := if_pos rfl
/-- the index has one live document of a key at most -/
def oneK (sg : Nat → List Dc) (ids : List Nat) (lv : Nat → Nat → Bool) (key : Nat) : Prop := ∀ (n j : Nat) (d : Dc) (n' j' : Nat) (d' : Dc), n ∈ ids → n' ∈ ids → (sg n)[j]? = some d → (sg n')[j']? = some d' → lv n j = true → lv n' j' = true → dK d = key → dK d' = key → n = n' ∧ j = j'
section DL
variable {v v' : Nat → Int32} {f f' : Nat → Nat → Int32} {g g' : Nat → Nat → Int64} {l : LGt} {B : List Dc} {made dn : Nat} {sg : Nat → List Dc} {hd : Nat → Nat → Nat} {ids : List Nat} {lv : Nat → Nat → Bool}
theorem p_del61 {Q : QI} {key : Nat} {b0 : Bool} (hk : key < 2 ^ 31) (hs : rSg l v f g made dn sg hd) (hi : rIx v f made sg ids lv) (hu : oneK sg ids lv key) (h : ∀ f' lv' b, rF [] [21] [] v f g v f' g → zK f f' 21 → rIx v f' made sg ids lv' → ((∃ (n j : Nat) (d : Dc), n ∈ ids ∧ (sg n)[j]? = some d ∧ lv n j = true ∧ dK d = key ∧ lv' = (fun n' i => if n' = n ∧ i = j then false else lv n' i) ∧ b = true) ∨ ((∀ (n j : Nat) (d : Dc), n ∈ ids → (sg n)[j]? = some d → lv n j = true → dK d ≠ key) ∧ lv' = lv ∧ b = b0)) → Q (bI b) v f' g) : r_deletes_61 Q (nI key) (bI b0) v f g := by
  obtain ⟨⟨s1, s2⟩, ⟨s3, s4⟩, s5⟩ := id hs
  obtain ⟨D, hD⟩ : ∃ D : Nat → Nat → (Nat → Nat → Bool) → Bool → Prop, D = fun k j lv' b => (∃ (k0 j0 n : Nat) (d : Dc), ids[k0]? = some n ∧ (sg n)[j0]? = some d ∧ lv n j0 = true ∧ dK d = key ∧ lv' = (fun n' i => if n' = n ∧ i = j0 then false else lv n' i) ∧ b = true) ∨ ((∀ (k0 j0 n : Nat) (d : Dc), (k0 < k ∨ (k0 = k ∧ j0 < j)) → ids[k0]? = some n → (sg n)[j0]? = some d → lv n j0 = true → dK d ≠ key) ∧ lv' = lv ∧ b = b0) := ⟨_, rfl⟩
  unfold r_deletes_61 r_deletes_64L
  refine lfp_cnt ids.length (fun k y => ∃ f' lv' b, rF [] [21] [] v f g v f' g ∧ zK f f' 21 ∧ rIx v f' made sg ids lv' ∧ D k 0 lv' b ∧ y = (nI key, bI b, nI k, v, f', g)) ?_ ⟨f, lv, b0, rF_rf, zK_rf, hi, by rw [hD]; exact Or.inr ⟨fun k0 j0 n d hlt => by omega, rfl, rfl⟩, rfl⟩
  rintro P k _ hk' ⟨f', lv', b, hF, hZ, hI, hd', rfl⟩ ih
  show r_deletes_64 Q _ (nI key) (bI b) (nI k) v f' g
  have i2 := hI.2.1
  unfold r_deletes_64
  rw [hI.1]
  refine pk_le ids.length k (fun z => ⟨⟨_, rfl⟩, ?_⟩) (fun z => ?_)
  · obtain rfl : k = ids.length := by omega
    rw [hD] at hd'
    refine h f' lv' b hF hZ hI ?_
    rcases hd' with ⟨k0, j0, n, d, h1, h2⟩ | ⟨h1, h2⟩
    · exact Or.inl ⟨n, j0, d, List.mem_of_getElem? h1, h2⟩
    · refine Or.inr ⟨fun n j d hn hdd => ?_, h2⟩
      obtain ⟨k0, hk0⟩ := List.getElem?_of_mem hn
      exact h1 k0 j n d (Or.inl (get_lt hk0)) hk0 hdd
  obtain ⟨n, hn⟩ := get_ex z
  have hnm := List.mem_of_getElem? hn
  have clk : (nI k).toNatClampNeg = k := nI_clamp (by omega)
  unfold r_deletes_76L
  refine lfp_cnt (sg n).length (fun j y => ∃ f' lv' b, rF [] [21] [] v f g v f' g ∧ zK f f' 21 ∧ rIx v f' made sg ids lv' ∧ D k j lv' b ∧ y = (nI key, bI b, nI k, nI j, v, f', g)) ?_ ⟨f', lv', b, hF, hZ, hI, hd', rfl⟩
  clear hd' hI hF hZ
  rintro P2 j _ hj ⟨f2, lv2, b2, hF, hZ, hI, hd', rfl⟩ ih2
  show r_deletes_76 Q _ _ (nI key) (bI b2) (nI k) (nI j) v f2 g
  obtain ⟨t1, t2⟩ := hI.2.2.1 k n hn
  obtain ⟨u1, u2, u3⟩ := s5 n t2
  have hs2 := rSg_fr hF (by decide) (by decide) (by decide) hs
  obtain ⟨w1, w2, w3⟩ := hs2.2.2 n t2
  have cln : (nI n).toNatClampNeg = n := nI_clamp (by omega)
  unfold r_deletes_76
  rw [clk, t1, cln, w1]
  refine ⟨pk_in k 202 (by omega), pk_in n 202 (by omega), pk_le (sg n).length j (fun z2 => ?_) (fun z2 => ⟨pk_in k 202 (by omega), ?_⟩)⟩
  · obtain rfl : j = (sg n).length := by omega
    rintro _ rfl
    rw [nI_add]
    refine ih _ z ⟨f2, lv2, b2, hF, hZ, hI, ?_, rfl⟩
    rw [hD] at hd' ⊢
    rcases hd' with hd' | ⟨h1, h2⟩
    · exact Or.inl hd'
    · refine Or.inr ⟨fun k0 j0 n' d hlt hn' hdd => h1 k0 j0 n' d ?_ hn' hdd, h2⟩
      rcases (show k0 < k ∨ k0 = k by omega) with q | q
      · exact Or.inl q
      · subst q
        rw [hn] at hn'
        obtain rfl := Option.some.inj hn'
        exact Or.inr ⟨rfl, get_lt hdd⟩
  rw [pk_mul, nI_add]
  rintro _ rfl
  obtain ⟨d, hdj⟩ := get_ex z2
  obtain ⟨c1, c2, c3⟩ := w3 j d hdj
  have clc : (nI (100 * n + j)).toNatClampNeg = 100 * n + j := nI_clamp (by omega)
  have inc : vp_in (nI (100 * n + j)) 20200 := pk_in (100 * n + j) 20200 (by omega)
  rw [clc, hI.2.2.2 n hnm j z2]
  have next : ∀ {f3 : Nat → Nat → Int32} {lv3 : Nat → Nat → Bool} {b3 : Bool}, rF [] [21] [] v f g v f3 g → zK f f3 21 → rIx v f3 made sg ids lv3 → D k (j + 1) lv3 b3 → r_deletes_144 Q (fun b0 b1 b2 v f g => P (b0, b1, b2, v, f, g)) (fun b0 b1 b2 b3 v f g => P2 (b0, b1, b2, b3, v, f, g)) (nI key) (bI b3) (nI k) (nI j) v f3 g := by
    intro f3 lv3 b3 hF3 hZ3 hI3 hD3
    unfold r_deletes_144
    rintro _ rfl
    rw [nI_add]
    exact ih2 _ z2 ⟨f3, lv3, b3, hF3, hZ3, hI3, hD3, rfl⟩
  -- nothing here
  have pass : (lv n j = true → dK d ≠ key) → D k (j + 1) lv2 b2 := by
    intro hne
    rw [hD] at hd' ⊢
    rcases hd' with hd' | ⟨h1, h2⟩
    · exact Or.inl hd'
    · refine Or.inr ⟨fun k0 j0 n' d' hlt hn' hdd hl => ?_, h2⟩
      by_cases q : k0 = k ∧ j0 = j
      · obtain ⟨rfl, rfl⟩ := q
        rw [hn] at hn'
        obtain rfl := Option.some.inj hn'
        rw [hdj] at hdd
        obtain rfl := Option.some.inj hdd
        exact hne hl
      · exact h1 k0 j0 n' d' (by omega) hn' hdd hl
  refine ⟨inc, w_b0 (lv2 n j) (fun e => ?_) (fun e => ⟨inc, ?_⟩)⟩
  · by_cases q : lv n j = true ∧ dK d = key
    · -- it was this one
      rw [hD] at hd'
      rcases hd' with ⟨k0, j0, n0, d0, a1, a2, a3, a4, a5, a6⟩ | ⟨h1, h2, h3⟩
      · exact next hF hZ hI (by rw [hD]; exact Or.inl ⟨k0, j0, n0, d0, a1, a2, a3, a4, a5, a6⟩)
      · rw [h2] at e
        rw [q.1] at e; exact absurd e (by decide)
    · exact next hF hZ hI (pass (fun hl e2 => q ⟨hl, e2⟩))
  have hdn : hd n j < 2424 := by omega
  have clh : (nI (hd n j)).toNatClampNeg = hd n j := nI_clamp (by omega)
  rw [c1, clh, c3.1.1]
  have := c3.1.2
  refine ⟨pk_in (hd n j) 2424 hdn, w_ne (dK d) key (fun c => next hF hZ hI (pass (fun _ => c))) (fun c => ⟨inc, fun f5 e5 => ?_⟩)⟩
  rw [hD] at hd'
  rcases hd' with ⟨k0, j0, n0, d0, a1, a2, a3, a4, a5, a6⟩ | ⟨h1, h2, h3⟩
  · -- there is one at most
    rw [a5] at e
    replace e : (if n = n0 ∧ j = j0 then false else lv n j) = true := e
    by_cases q : n = n0 ∧ j = j0
    · rw [if_pos q] at e; exact absurd e (by decide)
    · rw [if_neg q] at e
      exact absurd (hu n j d n0 j0 d0 hnm (List.mem_of_getElem? a1) hdj a2 e a3 c a4) q
  · rw [h2] at e
    have r21 : f5 21 = fun i => if i = 100 * n + j then bI false else f2 21 i := by rw [e5, mU_s]
    have o5 : ∀ i, i ≠ 21 → f5 i = f2 i := fun i hi' => by rw [e5, mU_n hi']
    refine next (lv3 := fun n' i => if n' = n ∧ i = j then false else lv n' i) (b3 := true) ⟨fun _ _ => rfl, fun i hi' => ?_, fun _ _ => rfl⟩ (zK_tr hZ (zK_up r21)) ⟨hI.1, hI.2.1, ?_, fun n' hn' i hi' => ?_⟩ (by rw [hD]; exact Or.inl ⟨k, j, n, d, hn, hdj, e, c, rfl, rfl⟩)
    · rw [o5 i (fun w => hi' (by rw [w]; decide))]; exact hF.2.1 i hi'
    · rw [o5 24 (by decide)]; exact hI.2.2.1
    · rw [r21]
      show (if 100 * n' + i = 100 * n + j then bI false else f2 21 (100 * n' + i)) = bI (if n' = n ∧ i = j then false else lv n' i)
      have l100 : (sg n').length ≤ 100 := by
        obtain ⟨kk, hkk⟩ := List.getElem?_of_mem hn'
        exact (s5 n' (hI.2.2.1 kk n' hkk).2).2.1
      by_cases q : n' = n ∧ i = j
      · rw [if_pos q, if_pos (by rw [q.1, q.2])]
      · rw [if_neg q, if_neg (by omega), hI.2.2.2 n' hn' i hi', h2]
theorem p_deletes {Q : QI} {key : Nat} (hk : key < 100) (hb : rBf l v f g B) (hs : rSg l v f g made dn sg hd) (hi : rIx v f made sg ids lv) (hu : oneK sg ids lv key) (hub : ∀ (i i' : Nat) (d d' : Dc), B[i]? = some d → B[i']? = some d' → dK d = key → dK d' = key → i = i') (hux : ∀ d, d ∈ B → dK d = key → ∀ (n j : Nat) (d' : Dc), n ∈ ids → (sg n)[j]? = some d' → lv n j = true → dK d' ≠ key) (h : ∀ v' f' g' B' lv' b, rF [20] [9, 10, 11, 13, 21] [12] v f g v' f' g' → zK f f' 21 → rBf l v' f' g' B' → rIx v' f' made sg ids lv' → dkR sg ids (nI key) B lv B' lv' b → Q (bI b) v' f' g') : r_deletes Q (nI key) v f g := by
  have kd : ∀ {d : Dc} {i : Nat}, B[i]? = some d → dK d < 100 := fun hd => by obtain ⟨b1, b2, b3⟩ := hb; exact (b3 _ _ hd).1.2
  have nIe : ∀ {d : Dc}, dK d < 2 ^ 31 → (nI (dK d) = nI key ↔ dK d = key) := fun hd => nI_eq hd (by omega)
  have sgk : ∀ {n j : Nat} {d : Dc}, n ∈ ids → (sg n)[j]? = some d → dK d < 2 ^ 31 := fun hn hd => by
    obtain ⟨kk, hkk⟩ := List.getElem?_of_mem hn
    have := ((hs.2.2 _ (hi.2.2.1 kk _ hkk).2).2.2 _ _ hd).2.2.1.2
    omega
  unfold r_deletes
  refine p_inBuffer (by omega) hb (fun at' dA hA hkA => ⟨fun e => ?_, fun _ => ?_⟩) (fun hno => ⟨fun _ => ?_, fun c => absurd rfl c⟩)
  · have := nI_pos (n := at') (by have := get_lt hA; have := hb.2.1; omega)
    rw [e] at this
    exact absurd (by decide) this
  · -- it is in the buffer
    obtain ⟨b1, b2, b3⟩ := id hb
    have hAl := get_lt hA
    unfold r_deletes_16
    refine ⟨fun c => absurd c (by decide), fun _ => ?_⟩
    rw [nI_add]
    rintro _ rfl
    unfold r_deletes_26L
    refine lfp_cnt (B.length - (at' + 1)) (fun i y => ∃ f' g', rF [] [9, 10, 11, 13] [12] v f g v f' g' ∧ (∀ j d, j < at' → B[j]? = some d → rDc l (f' 9) (f' 10) (f' 11) (f' 13) (g' 12) j d) ∧ (∀ j d, at' ≤ j → j < at' + i → B[j + 1]? = some d → rDc l (f' 9) (f' 10) (f' 11) (f' 13) (g' 12) j d) ∧ (∀ j d, at' + 1 + i ≤ j → B[j]? = some d → rDc l (f' 9) (f' 10) (f' 11) (f' 13) (g' 12) j d) ∧ y = (nI key, nI 1, nI (at' + 1 + i), v, f', g')) ?_ ⟨f, g, rF_rf, fun j d _ hj => b3 j d hj, fun j d h1 h2 => by omega, fun j d _ hj => b3 j d hj, rfl⟩
    rintro P i _ hi' ⟨f', g', hF, r1, r2, r3, rfl⟩ ih
    show r_deletes_26 Q _ (nI key) (nI 1) (nI (at' + 1 + i)) v f' g'
    unfold r_deletes_26
    rw [b1, pk_sub (show 1 ≤ B.length by omega)]
    refine pk_le B.length (at' + 1 + i) (fun z => ?_) (fun z => ?_)
    · rintro _ rfl
      have eL : (B.eraseIdx at').length = B.length - 1 := List.length_eraseIdx_of_lt hAl
      have hF2 : rF [20] [9, 10, 11, 13] [12] v f g (upd v 20 (nI (B.length - 1))) f' g' := ⟨fun j hj => upd_n (fun e => hj (by rw [e]; decide)), hF.2.1, hF.2.2⟩
      have hs2 := rSg_fr hF2 (by decide) (by decide) (by decide) hs
      have hi2 : rIx (upd v 20 (nI (B.length - 1))) f' made sg ids lv := rIx_fr (upd_n (by decide)) (hF.2.1 24 (by decide)) (hF.2.1 21 (by decide)) hi
      refine p_del61 (b0 := true) (by omega) hs2 hi2 hu (fun f'' lv' b hF3 hZ3 hI3 hres => ?_)
      have hb2 : rBf l (upd v 20 (nI (B.length - 1))) f'' g' (B.eraseIdx at') := by
        refine ⟨by rw [eL]; exact upd_at, by rw [eL]; omega, fun j d hj => ?_⟩
        rw [hF3.2.1 9 (by decide), hF3.2.1 10 (by decide), hF3.2.1 11 (by decide), hF3.2.1 13 (by decide)]
        rcases era_get2 hj with ⟨c, hj⟩ | ⟨c, hj⟩
        · exact r1 j d c hj
        · exact r2 j d c (by have := get_lt hj; omega) hj
      have hF4 : rF [20] [9, 10, 11, 13, 21] [12] v f g (upd v 20 (nI (B.length - 1))) f'' g' := rF_tr (rF_wk hF2 (by decide) (by decide) (by decide)) (rF_wk hF3 (by decide) (by decide) (by decide))
      rcases hres with ⟨n, j, d, hn, hdd, hl, hkd, -, -⟩ | ⟨-, e1, e2⟩
      · exact absurd hkd (hux dA (List.mem_of_getElem? hA) hkA n j d hn hdd hl)
      · rw [e2]
        refine h _ f'' g' (B.eraseIdx at') lv' true hF4 (zK_tr (zK_eq (hF.2.1 21 (by decide))) hZ3) hb2 hI3 (Or.inl ⟨at', dA, hA, by rw [hkA], rfl, e1, rfl⟩)
    · rw [pk_sub (show 1 ≤ at' + 1 + i by omega), show at' + 1 + i - 1 = at' + i by omega]
      refine p_moves (by omega) (by omega) (by omega) (fun f2 g2 hF2 m1 m2 m3 m4 m5 m6 => ?_)
      rintro _ rfl
      rw [nI_add]
      have keep : ∀ j d, j ≠ at' + i → rDc l (f' 9) (f' 10) (f' 11) (f' 13) (g' 12) j d → rDc l (f2 9) (f2 10) (f2 11) (f2 13) (g2 12) j d := fun j d hj hr => rDc_cp (m2 j hj).1 (m2 j hj).2.1 (m2 j hj).2.2 (m4 j hj) (m6 j hj) hr
      refine ih _ (by omega) ⟨f2, g2, rF_tr hF hF2, fun j d hj hB => keep j d (by omega) (r1 j d hj hB), fun j d hj1 hj2 hB => ?_, fun j d hj hB => keep j d (by omega) (r3 j d (by omega) hB), by rw [show at' + 1 + i + 1 = at' + 1 + (i + 1) by omega]⟩
      by_cases c : j = at' + i
      · subst c
        have hB' : B[at' + 1 + i]? = some d := by rw [show at' + 1 + i = at' + i + 1 by omega]; exact hB
        exact rDc_cp m1.1 m1.2.1 m1.2.2 m3 m5 (r3 (at' + 1 + i) d (Nat.le_refl _) hB')
      · exact keep j d c (r2 j d hj1 (by omega) hB)
  · unfold r_deletes_16
    refine ⟨fun _ => ?_, fun c => absurd rfl c⟩
    refine p_del61 (b0 := false) (by omega) hs hi hu (fun f' lv' b hF hZ hI hres => ?_)
    have hb2 : rBf l v f' g B := rBf_fr rfl (hF.2.1 9 (by decide)) (hF.2.1 10 (by decide)) (hF.2.1 11 (by decide)) (hF.2.1 13 (by decide)) rfl hb
    refine h v f' g B lv' b (rF_wk hF (by decide) (by decide) (by decide)) hZ hb2 hI (Or.inr ⟨fun d hd e => ?_, rfl, ?_⟩)
    · obtain ⟨i, hi'⟩ := List.getElem?_of_mem hd
      exact hno d hd ((nIe (by have := kd hi'; omega)).mp e)
    · rcases hres with ⟨n, j, d, hn, hdd, hl, hkd, e1, e2⟩ | ⟨hn, e1, e2⟩
      · exact Or.inl ⟨n, j, d, hn, hdd, hl, by rw [hkd], e1, e2⟩
      · exact Or.inr ⟨fun n j d hn' hdd hl e => hn n j d hn' hdd hl ((nIe (sgk hn' hdd)).mp e), e1, e2⟩
end DL
