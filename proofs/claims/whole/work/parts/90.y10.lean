/-! the reference: a text is told -/
section RT
variable {v : Nat → Int32} {f : Nat → Nat → Int32} {g : Nat → Nat → Int64}
theorem syL_s {F S : Nat → Int64} {s : Int64} {p i : Nat} : (syL F S s p (i + 1)).length = (syL F S s p i).length + (if gvB F S i s = true then 1 else 0) := by
  rw [syL, List.length_append]
  by_cases c : gvB F S i s = true
  · rw [if_pos c, if_pos c]; rfl
  · rw [if_neg c, if_neg c]; rfl
theorem tkL_s {F S : Nat → Int64} {yn : Nat} {stp : Int64 → Bool} {st : Nat → Int64} {k : Nat} : (tkL F S yn stp st (k + 1)).length = (tkL F S yn stp st k).length + (if stp (st k) = true then 0 else 1 + (syL F S (st k) k yn).length) := by
  rw [tkL, List.length_append]
  by_cases c : stp (st k) = true
  · rw [if_pos c, if_pos c]; rfl
  · rw [if_neg c, if_neg c, List.length_cons, Nat.add_comm 1]
set_option maxHeartbeats 1000000 in
theorem p_text {Q : QI} {P : Nat → Nat} {n ks yn k : Nat} (hp : mPow g) (hn : n ≤ 40) (hv : v 2 = nI n) (hP : ∀ j, j < n → f 2 j = nI (P j) ∧ P j < 65536) (hks : ks ≤ 10) (hv6 : v 6 = nI ks) (hyn : yn ≤ 10) (hv9 : v 9 = nI yn) (hk : k < 2) (h : ∀ r r7, (∀ j, j < wdC P n → r7 (20 * k + j) = lN (stW (wdW P n j))) → (∀ i, i < 20 * k ∨ 20 * k + 20 ≤ i → r7 i = g 7 i) → Q (nI (tkL (g 5) (g 6) yn (fun c => anyB (fun j => g 4 j == c) ks) (fun k => lN (stW (wdW P n k))) (wdC P n)).length) (upd (upd (upd v 99 (nI 0)) 4 (nI (wdC P n))) 2 (nI 0)) (sR f 8 (upR (f 8) k (nI (wdC P n)))) (sR (sR g 3 r) 7 r7)) : r_text Q (nI k) v f g := by
  have hC : wdC P n ≤ 20 := by have := wdC_le P n; omega
  unfold r_text
  refine p_in ?_
  have hb : inB (nI k) (nI 0) (nI 1) = true := by rcases (show k = 0 ∨ k = 1 by omega) with rfl | rfl <;> decide
  rw [hb]
  refine p_goes (b1 := true) (b2 := true) (b3 := true) ⟨fun _ => ?_, fun d => absurd d (by decide)⟩
  refine p_reads hp hn ((upd_n (by decide)).trans hv) hP (fun r hr => ⟨pk_in k 2 hk, ?_⟩)
  rw [upd_e, nI_clamp (by omega)]
  rintro _ rfl
  rw [mU_new]
  obtain ⟨v1, hv1⟩ : ∃ v1, v1 = upd (upd v 99 (goX true true true)) 4 (nI (wdC P n)) := ⟨_, rfl⟩
  obtain ⟨f1, hf1⟩ : ∃ f1, f1 = sR f 8 (upR (f 8) k (nI (wdC P n))) := ⟨_, rfl⟩
  have h' : ∀ r7, (∀ j, j < wdC P n → r7 (20 * k + j) = lN (stW (wdW P n j))) → (∀ i, i < 20 * k ∨ 20 * k + 20 ≤ i → r7 i = g 7 i) → Q (nI (tkL (g 5) (g 6) yn (fun c => anyB (fun j => g 4 j == c) ks) (fun k => lN (stW (wdW P n k))) (wdC P n)).length) (upd v1 2 (nI 0)) f1 (sR (sR g 3 r) 7 r7) := by
    intro r7 a b; rw [hv1, hf1]; exact h r r7 a b
  rw [← hv1, ← hf1]
  have w4 : v1 4 = nI (wdC P n) := by rw [hv1, upd_e]
  have w6 : v1 6 = nI ks := by rw [hv1]; exact hv6
  have w9 : v1 9 = nI yn := by rw [hv1]; exact hv9
  clear hv1 hf1 h
  unfold r_text_35L
  have eg7 : sR g 3 r = sR (sR g 3 r) 7 (g 7) := by
    have : (sR g 3 r) 7 = g 7 := sR_n (by decide)
    rw [← this, sR_id]
  refine lfp_cnt (wdC P n) (fun j y => ∃ r7, (∀ i, i < j → r7 (20 * k + i) = lN (stW (wdW P n i))) ∧ (∀ i, i < 20 * k ∨ 20 * k + 20 ≤ i → r7 i = g 7 i) ∧ y = (nI k, nI (tkL (g 5) (g 6) yn (fun c => anyB (fun j => g 4 j == c) ks) (fun k => lN (stW (wdW P n k))) j).length, nI j, v1, f1, sR (sR g 3 r) 7 r7)) ?_ ⟨g 7, fun i z => absurd z (Nat.not_lt_zero i), fun _ _ => rfl, by rw [← eg7]; rfl⟩
  rintro R j _ hj ⟨r7, h7, h8, rfl⟩ ih
  show r_text_35 Q _ (nI k) (nI (tkL (g 5) (g 6) yn (fun c => anyB (fun j => g 4 j == c) ks) (fun k => lN (stW (wdW P n k))) j).length) (nI j) v1 f1 (sR (sR g 3 r) 7 r7)
  have go : ∀ (N : Nat) (r7 : Nat → Int64), j < wdC P n → N = (tkL (g 5) (g 6) yn (fun c => anyB (fun j => g 4 j == c) ks) (fun k => lN (stW (wdW P n k))) (j + 1)).length → (∀ i, i < j + 1 → r7 (20 * k + i) = lN (stW (wdW P n i))) → (∀ i, i < 20 * k ∨ 20 * k + 20 ≤ i → r7 i = g 7 i) → r_text_131 Q (fun b0 b1 b2 v f g => R (b0, b1, b2, v, f, g)) (nI k) (nI N) (nI j) v1 f1 (sR (sR g 3 r) 7 r7) := by
    intro N r7 hlt hN a b
    unfold r_text_131
    rintro _ rfl
    rw [nI_add, hN]
    exact ih _ hlt ⟨r7, a, b, rfl⟩
  unfold r_text_35
  rw [w4]
  refine (w_nle (wdC P n) j (fun hlt => ?_) (fun z => ?_)).symm
  · have e3 : (sR (sR g 3 r) 7 r7) 3 = r := (sR_n (by decide)).trans sR_s
    rw [e3, nI_clamp (by omega), hr j hlt]
    refine ⟨pk_in j 20 (by omega), p_stem (wdW_63 P n j) (fun i hi => ?_) ?_⟩
    · rw [sR_n (by decide), sR_n (by decide)]; exact hp i hi
    have e20 : nI 20 * nI k + nI j = nI (20 * k + j) := by rw [pk_mul, nI_add]
    rw [e20, nI_clamp (by omega)]
    refine ⟨pk_in (20 * k + j) 40 (by omega), ?_⟩
    rintro _ rfl
    rw [mU_sR]
    obtain ⟨q7, hq7⟩ : ∃ q7, q7 = upR r7 (20 * k + j) (lN (stW (wdW P n j))) := ⟨_, rfl⟩
    rw [← hq7]
    have a7 : ∀ i, i < j + 1 → q7 (20 * k + i) = lN (stW (wdW P n i)) := by
      intro i hi
      rw [hq7]
      by_cases e : i = j
      · rw [e, upR_s]
      · rw [upR_n (by omega)]; exact h7 i (by omega)
    have b7 : ∀ i, i < 20 * k ∨ 20 * k + 20 ≤ i → q7 i = g 7 i := by
      intro i hi
      rw [hq7, upR_n (by omega)]; exact h8 i hi
    have G4 : (sR (sR g 3 r) 7 q7) 4 = g 4 := (sR_n (by decide)).trans (sR_n (by decide))
    have G5 : (sR (sR g 3 r) 7 q7) 5 = g 5 := (sR_n (by decide)).trans (sR_n (by decide))
    have G6 : (sR (sR g 3 r) 7 q7) 6 = g 6 := (sR_n (by decide)).trans (sR_n (by decide))
    have es := tkL_s (F := g 5) (S := g 6) (yn := yn) (stp := fun c => anyB (fun j => g 4 j == c) ks) (st := fun k => lN (stW (wdW P n k))) (k := j)
    generalize (tkL (g 5) (g 6) yn (fun c => anyB (fun j => g 4 j == c) ks) (fun k => lN (stW (wdW P n k))) j).length = N0 at es
    generalize hN1 : (tkL (g 5) (g 6) yn (fun c => anyB (fun j => g 4 j == c) ks) (fun k => lN (stW (wdW P n k))) (j + 1)).length = N1 at es go
    have es : N1 = N0 + (if anyB (fun i => g 4 i == lN (stW (wdW P n j))) ks = true then 0 else 1 + (syL (g 5) (g 6) (lN (stW (wdW P n j))) j yn).length) := es
    generalize lN (stW (wdW P n j)) = s at es a7
    refine p_isStop hks w6 ?_
    rw [G4]
    -- the loop over the pairs
    have inner : ∀ c : Nat, c = (if anyB (fun i => g 4 i == s) ks = true then 0 else 1) → r_text_83 Q (fun b0 b1 b2 v f g => R (b0, b1, b2, v, f, g)) (nI k) (nI j) s (nI c) (nI N0) v1 f1 (sR (sR g 3 r) 7 q7) := by
      intro c hc
      unfold r_text_83
      rintro _ rfl
      rw [nI_add]
      unfold r_text_88L
      refine lfp_cnt yn (fun i y => (anyB (fun i => g 4 i == s) ks = true → i = 0) ∧ y = (nI k, nI (N0 + c + (if anyB (fun i => g 4 i == s) ks = true then 0 else (syL (g 5) (g 6) s j i).length)), nI j, s, nI i, v1, f1, sR (sR g 3 r) 7 q7)) ?_ ⟨fun _ => rfl, by
        have : (if anyB (fun i => g 4 i == s) ks = true then 0 else (syL (g 5) (g 6) s j 0).length) = 0 := by split <;> rfl
        rw [this]; rfl⟩
      rintro R2 i _ hi ⟨hi0, rfl⟩ ih2
      show r_text_88 Q (fun b0 b1 b2 v f g => R (b0, b1, b2, v, f, g)) (fun b0 b1 b2 b3 b4 v f g => R2 (b0, b1, b2, b3, b4, v, f, g)) (nI k) (nI (N0 + c + (if anyB (fun i => g 4 i == s) ks = true then 0 else (syL (g 5) (g 6) s j i).length))) (nI j) s (nI i) v1 f1 (sR (sR g 3 r) 7 q7)
      unfold r_text_88
      rw [w9]
      refine (w_nle yn i (fun hlt2 => ?_) (fun z => ?_)).symm
      · refine p_isStop hks w6 ?_
        rw [G4]
        refine w_bn _ (fun sp => ?_) (fun sp => ?_)
        · refine go _ q7 hlt ?_ a7 b7
          rw [es, hc, if_pos sp, if_pos sp, if_pos sp]
        · refine p_gives (by omega) ?_
          rw [G5, G6]
          rw [if_neg (by rw [sp]; decide)] at hc
          have nxt : ∀ d : Nat, d = (if gvB (g 5) (g 6) i s = true then 1 else 0) → r_text_123 Q (fun b0 b1 b2 v f g => R (b0, b1, b2, v, f, g)) (fun b0 b1 b2 b3 b4 v f g => R2 (b0, b1, b2, b3, b4, v, f, g)) (nI k) (nI j) s (nI i) (nI d) (nI (N0 + c + (if anyB (fun i => g 4 i == s) ks = true then 0 else (syL (g 5) (g 6) s j i).length))) v1 f1 (sR (sR g 3 r) 7 q7) := by
            intro d hd
            unfold r_text_123
            rintro _ rfl _ rfl
            rw [nI_add, nI_add]
            refine ih2 _ hlt2 ⟨fun z => absurd z (by rw [sp]; decide), ?_⟩
            rw [if_neg (by rw [sp]; decide), if_neg (by rw [sp]; decide), syL_s, ← hd, Nat.add_assoc]
          exact w_b0 (gvB (g 5) (g 6) i s) (fun gz => nxt 0 (by rw [gz]; rfl)) (fun gz => nxt 1 (by rw [gz]; rfl))
      · obtain rfl : i = yn := by omega
        refine go _ q7 hlt ?_ a7 b7
        rw [es, hc]
        by_cases sp : anyB (fun i => g 4 i == s) ks = true
        · rw [if_pos sp, if_pos sp, if_pos sp]
        · rw [if_neg sp, if_neg sp, if_neg sp]; omega
    refine w_b0 (anyB (fun i => g 4 i == s) ks) (fun sp => inner 1 (by rw [sp]; rfl)) (fun sp => inner 0 (by rw [sp]; rfl))
  · obtain rfl : j = wdC P n := by omega
    rintro _ rfl
    exact h' r7 h7 h8
end RT
