/-! the reference: a question is made ready on a snapshot -/
section RG
variable {v v' : Nat → Int32} {f f' : Nat → Nat → Int32} {g g' : Nat → Nat → Int64} {l : LGt} {made dn : Nat} {sg : Nat → List Dc} {hd : Nat → Nat → Nat} {s : Vw} {q m w0 w1 : Nat} {nd : Nat → Nd}
theorem rNd_55 {n : Nat} {o : Nat} {d : Nd} (hn : n = 55 ∨ n = 54 ∨ n = 56 ∨ n = 38) (h : ∀ k, k ≠ n → f' k = f k) (hN : rNd f g o d) : rNd f' g o d := by
  have e : ∀ k, 40 ≤ k → k < 48 → f' k = f k := fun k h1 h2 => h k (by omega)
  refine rNd_cp hN ?_ ?_ ?_ ?_ ?_ (fun _ _ => rfl) (fun i _ => ?_) (fun i _ => ?_)
  · rw [e 40 (by decide) (by decide)]
  · rw [e 41 (by decide) (by decide)]
  · rw [e 42 (by decide) (by decide)]
  · rw [e 43 (by decide) (by decide)]
  · rw [e 44 (by decide) (by decide)]
  · rw [e 46 (by decide) (by decide)]
  · rw [e 47 (by decide) (by decide)]
theorem p_laysGains {Q : QV} (hl : rLg v g l) (hs : rSg l v f g made dn sg hd) (hv : rLv v f sg hd s) (hid : ∀ n, n ∈ s.1 → n < made) (hq40 : q < 41) (h48 : f 48 q = nI m) (hm : m ≤ 48) (hN : ∀ j, j < m → rNd f g (48 * q + j) (nd j)) (hq : qOk nd m) (h0 : f 49 0 = nI w0) (h1 : f 49 1 = nI w1) (h : ∀ f', (∀ n, n ≠ 55 → f' n = f n) → (∀ j, j < m → nLf (nd j) = true → f' 55 j = nI (gnN w0 w1 (nd j) (rrL nd m sg s.2 s.1 (lfI nd j).length))) → Q v f' g) : r_laysGains Q (nI q) v f g := by
  unfold r_laysGains r_laysGains_2L
  refine lfp_cnt m (fun k y => ∃ f2, (∀ n, n ≠ 55 → f2 n = f n) ∧ (∀ j, j < k → nLf (nd j) = true → f2 55 j = nI (gnN w0 w1 (nd j) (rrL nd m sg s.2 s.1 (lfI nd j).length))) ∧ y = (nI q, nI k, v, f2, g)) ?_ ⟨f, fun _ _ => rfl, fun j hj => absurd hj (Nat.not_lt_zero j), rfl⟩
  rintro P k _ hk ⟨f2, a1, a2, rfl⟩ ih
  show r_laysGains_2 Q _ (nI q) (nI k) v f2 g
  unfold r_laysGains_2
  rw [nI_clamp (show q < 2 ^ 31 by omega), a1 48 (by decide), h48, pk_mul, nI_add]
  refine ⟨pk_in q 41 hq40, pk_le m k (fun z => ?_) (fun z => ?_)⟩
  · obtain rfl : k = m := by omega
    exact h f2 a1 a2
  intro x3 ex3
  rw [ex3]
  obtain ⟨⟨n1, n1'⟩, n2, n3, -, n5, -, n7, -⟩ := hN k z
  have ho : 48 * q + k < 1968 := by omega
  have oin : vp_in (nI (48 * q + k)) 1968 := pk_in _ 1968 ho
  have oc : (nI (48 * q + k)).toNatClampNeg = 48 * q + k := nI_clamp (by omega)
  have kc : (nI k).toNatClampNeg = k := nI_clamp (by omega)
  have e40 : f2 40 (48 * q + k) = nI (nK (nd k)) := by rw [a1 40 (by decide)]; exact n1
  have e41 : nK (nd k) < 6 → f2 41 (48 * q + k) = nI (nF (nd k)) := fun c => by rw [a1 41 (by decide)]; exact n2 c
  have e44 : f2 44 (48 * q + k) = nI (mnN (nd k)) := by rw [a1 44 (by decide)]; exact n5
  have e49 : nF (nd k) < 2 → f2 49 (nF (nd k)) = nI (wtN w0 w1 (nF (nd k))) := fun c => by
    rw [a1 49 (by decide)]
    unfold wtN
    by_cases c2 : nF (nd k) = 0
    · rw [if_pos c2, c2]; exact h0
    · rw [if_neg c2, show nF (nd k) = 1 by omega]; exact h1
  obtain ⟨R, hR⟩ : ∃ R : Nat → Nat, R = fun t => rarN (sumL (fun n => cntB (s.2 n) (sg n).length) s.1) (hvN sg s.2 s.1 (nF (nd k)) (tkC (nd k) t)) := ⟨_, rfl⟩
  have go : ∀ x : Int32, (nLf (nd k) = true → x = nI (gnN w0 w1 (nd k) (rrL nd m sg s.2 s.1 (lfI nd k).length))) → r_laysGains_128 Q (fun b0 b1 v f g => P (b0, b1, v, f, g)) (nI q) (nI k) x (nI k) v f2 g := by
    intro x hx
    unfold r_laysGains_128
    refine ⟨pk_in k 48 (by omega), ?_⟩
    rintro f3 ef3 _ rfl
    rw [nI_add]
    rw [kc] at ef3
    refine ih _ z ⟨f3, fun n hn => by rw [ef3, mU_n hn]; exact a1 n hn, fun j hj lf => ?_, rfl⟩
    rw [ef3, mU_s]
    show (if j = k then x else f2 55 j) = _
    by_cases c : j = k
    · rw [if_pos c, c]; rw [c] at lf; exact hx lf
    · rw [if_neg c]; exact a2 j (by omega) lf
  unfold r_laysGains_25L
  refine lfp_cnt (nT (nd k)).length (fun t y => (nK (nd k) ≤ 2 ∨ t = 0) ∧ y = (nI q, nI k, nI (48 * q + k), nI (smN R t), nI t, v, f2, g)) ?_ ⟨Or.inr rfl, rfl⟩
  rintro P2 t _ ht ⟨ht2, rfl⟩ ih2
  show r_laysGains_25 Q _ _ (nI q) (nI k) (nI (48 * q + k)) (nI (smN R t)) (nI t) v f2 g
  have go2 : (nK (nd k) ≤ 2 → t = (nT (nd k)).length) → r_laysGains_79 Q (fun b0 b1 v f g => P (b0, b1, v, f, g)) (nI q) (nI k) (nI (48 * q + k)) (nI (smN R t)) v f2 g := by
    intro he
    unfold r_laysGains_79
    rw [oc, e40]
    refine ⟨oin, pk_lt (nK (nd k)) 6 (fun c6 => ⟨oin, ?_⟩) (fun c6 => go (nI 0) (fun w => ?_))⟩
    · have nl : nLf (nd k) = true := by unfold nLf; rw [decide_eq_true c6]
      obtain ⟨g1, g2, g3⟩ := (hq k z).1 nl
      rw [e41 c6, nI_clamp (show nF (nd k) < 2 ^ 31 by omega), e49 g2]
      refine ⟨pk_in (nF (nd k)) 2 g2, oin, pk_lt (nK (nd k)) 3 (fun c3 => ?_) (fun c3 => ?_)⟩
      · unfold r_laysGains_127
        rw [pk_mul]
        refine go _ (fun _ => ?_)
        have li : (lfI nd k).length < (lfI nd m).length := get_lt (lfI_at nl z)
        have er : rrL nd m sg s.2 s.1 (lfI nd k).length = smN R (nT (nd k)).length := by
          unfold rrL
          rw [if_pos li, lfD_at nl z, hR]; rfl
        unfold gnN
        rw [if_pos (by omega), er, he (by omega)]
      · unfold r_laysGains_127
        rw [pk_mul]
        refine go _ (fun _ => ?_)
        unfold gnN
        rw [if_neg (by omega)]
    · unfold nLf at w
      exact absurd (of_decide_eq_true w) (by omega)
  unfold r_laysGains_25
  rw [oc, e40]
  refine ⟨oin, pk_le 3 (nK (nd k)) (fun c3 => go2 (fun w => absurd w (by omega))) (fun c3 => ⟨oin, ?_⟩)⟩
  have m44 : mnN (nd k) = (nT (nd k)).length := by unfold mnN; rw [if_pos (by omega)]
  have nl : nLf (nd k) = true := by unfold nLf; rw [decide_eq_true (by omega)]
  obtain ⟨g1, g2, g3⟩ := (hq k z).1 nl
  have len6 : (nT (nd k)).length ≤ 6 := by
    rcases g3 with w | w
    · exact w.2.2.1
    · have := w.1; omega
  rw [e44, m44]
  refine pk_le (nT (nd k)).length t (fun z2 => go2 (fun _ => by omega)) (fun z2 => ⟨oin, ?_⟩)
  obtain ⟨x, hx⟩ := get_ex (l := nT (nd k)) (k := t) z2
  have b1 := (n7 (by omega) t x hx).1
  have cx : tkC (nd k) t = x.1 := tkC_get rfl hx
  rw [pk_mul, nI_add, nI_clamp (show 6 * (48 * q + k) + t < 2 ^ 31 by omega), b1, ← cx, e41 (by omega)]
  have hs2 : rSg l v f2 g made dn sg hd := by
    unfold rSg
    rw [a1 20 (by decide), a1 19 (by decide), a1 14 (by decide), a1 15 (by decide), a1 16 (by decide), a1 18 (by decide)]; exact hs
  have hv2 : rLv v f2 sg hd s := by
    unfold rLv
    rw [a1 38 (by decide)]; exact hv
  refine ⟨pk_in (6 * (48 * q + k) + t) 11808 (by omega), p_rarity hl hs2 hv2 hid g2 ?_⟩
  rintro _ rfl _ rfl
  rw [nI_add, nI_add]
  refine ih2 _ z2 ⟨Or.inl (by omega), ?_⟩
  have : smN R (t + 1) = smN R t + rarN (allN sg s.2 s.1) (hvN sg s.2 s.1 (nF (nd k)) (tkC (nd k) t)) := by rw [smN, hR]; rfl
  rw [this]
theorem qsS_st {nd : Nat → Nd} {m : Nat} (hq : qOk nd m) : ∀ k, k ≤ m → ∀ i, i < (qsS nd k).1 → (qsS nd k).2.1 i < k
  | 0, _, i, hi => absurd hi (Nat.not_lt_zero i)
  | k + 1, hk, i, hi => by
    have ih := qsS_st hq k (by omega)
    obtain ⟨h1, h2⟩ := hq k (by omega)
    cases c : nLf (nd k) with
    | true =>
      rw [qs_s c] at hi
      have e : (qsS nd (k + 1)).2.1 = upR (qsS nd k).2.1 (qsS nd k).1 k := by rw [qsS, if_pos c]
      rw [e]
      by_cases z : i = (qsS nd k).1
      · rw [z, upR_s]; omega
      · rw [upR_n z]; have := ih i (by omega); omega
    | false =>
      rw [qs_n c] at hi
      have e : (qsS nd (k + 1)).2.1 = (qsS nd k).2.1 := by rw [qsS, c, if_neg Bool.false_ne_true]
      rw [e]; have := ih i (by omega); omega
theorem p_laysSeconds {Q : QV} (hq40 : q < 41) (h48 : f 48 q = nI m) (hm : m ≤ 48) (hN : ∀ j, j < m → rNd f g (48 * q + j) (nd j)) (hq : qOk nd m) (h : ∀ f', (∀ n, n ≠ 54 → n ≠ 56 → f' n = f n) → (∀ j, j < m → f' 56 j = bI ((qsS nd m).2.2 j)) → Q v f' g) : r_laysSeconds Q (nI q) v f g := by
  unfold r_laysSeconds r_laysSeconds_4L
  refine lfp_cnt m (fun k y => ∃ f2, (∀ n, n ≠ 54 → n ≠ 56 → f2 n = f n) ∧ (∀ i, i < (qsS nd k).1 → f2 54 i = nI ((qsS nd k).2.1 i)) ∧ (∀ j, j < k → f2 56 j = bI ((qsS nd k).2.2 j)) ∧ y = (nI q, nI (qsS nd k).1, nI k, v, f2, g)) ?_ ⟨f, fun _ _ _ => rfl, fun i hi => absurd hi (Nat.not_lt_zero i), fun j hj => absurd hj (Nat.not_lt_zero j), rfl⟩
  rintro P k _ hk ⟨f2, a1, a2, a3, rfl⟩ ih
  show r_laysSeconds_4 Q _ (nI q) (nI (qsS nd k).1) (nI k) v f2 g
  have p8 := qOk_le hq k hk
  unfold r_laysSeconds_4
  rw [nI_clamp (show q < 2 ^ 31 by omega), a1 48 (by decide) (by decide), h48, pk_mul, nI_add]
  refine ⟨pk_in q 41 hq40, pk_le m k (fun z => ?_) (fun z => ?_)⟩
  · obtain rfl : k = m := by omega
    exact h f2 a1 a3
  intro x4 ex4
  rw [ex4]
  obtain ⟨⟨n1, n1'⟩, -, -, -, n5, -⟩ := hN k z
  have ho : 48 * q + k < 1968 := by omega
  have oin : vp_in (nI (48 * q + k)) 1968 := pk_in _ 1968 ho
  have oc : (nI (48 * q + k)).toNatClampNeg = 48 * q + k := nI_clamp (by omega)
  have kc : (nI k).toNatClampNeg = k := nI_clamp (by omega)
  refine ⟨pk_in k 48 (by omega), ?_⟩
  intro f3 ef3
  rw [kc] at ef3
  have b1 : ∀ n, n ≠ 54 → n ≠ 56 → f3 n = f n := fun n h1 h2 => by rw [ef3, mU_n h2]; exact a1 n h1 h2
  have b54 : f3 54 = f2 54 := by rw [ef3, mU_n (by decide)]
  have b56 : f3 56 = fun j => if j = k then bI false else f2 56 j := by rw [ef3, mU_s]
  have e40 : f3 40 (48 * q + k) = nI (nK (nd k)) := by rw [b1 40 (by decide) (by decide)]; exact n1
  have e44 : f3 44 (48 * q + k) = nI (mnN (nd k)) := by rw [b1 44 (by decide) (by decide)]; exact n5
  rw [oc, e40]
  refine ⟨oin, pk_le 6 (nK (nd k)) (fun c6 => ?_) (fun c6 => ?_)⟩
  · have nl : nLf (nd k) = false := by unfold nLf; rw [decide_eq_false (by omega)]
    obtain ⟨g1, g2, g3, g4, g5⟩ := (hq k z).2 nl
    have m44 : mnN (nd k) = nP (nd k) := by unfold mnN; rw [if_neg (by omega), if_neg (by omega)]
    have st := qsS_st hq k hk ((qsS nd k).1 - 1) (by omega)
    obtain ⟨s0, hs0⟩ : ∃ s0, s0 = (qsS nd k).2.1 ((qsS nd k).1 - 1) := ⟨_, rfl⟩
    have e5 : f3 54 ((qsS nd k).1 - 1) = nI s0 := by rw [b54, a2 _ (by omega), hs0]
    rw [← hs0] at st
    rw [pk_sub (show 1 ≤ (qsS nd k).1 by omega), nI_clamp (show (qsS nd k).1 - 1 < 2 ^ 31 by omega), e5]
    refine ⟨pk_in ((qsS nd k).1 - 1) 50 (by omega), ?_⟩
    intro x5 ex5
    rw [ex5]
    have q2 : (qsS nd (k + 1)).2.1 = (qsS nd k).2.1 := by rw [qsS, nl, if_neg Bool.false_ne_true]
    have q3 : (qsS nd (k + 1)).2.2 = upR (fun j => if nK (nd k) = 7 ∧ s0 ≤ j ∧ j < k then true else (qsS nd k).2.2 j) k false := by rw [qsS, nl, if_neg Bool.false_ne_true, hs0]
    unfold r_laysSeconds_61L
    refine lfp_cnt (k - s0) (fun i y => (nK (nd k) = 7 ∨ i = 0) ∧ ∃ f4, (∀ n, n ≠ 54 → n ≠ 56 → f4 n = f n) ∧ f4 54 = f2 54 ∧ (∀ j, j < k + 1 → f4 56 j = bI (upR (fun j => if s0 ≤ j ∧ j < s0 + i then true else (qsS nd k).2.2 j) k false j)) ∧ y = (nI q, nI (qsS nd k).1, nI k, nI (48 * q + k), nI (s0 + i), v, f4, g)) ?_ ⟨Or.inr rfl, f3, b1, b54, fun j hj => ?_, rfl⟩
    · rintro P2 i _ hi ⟨hi7, f4, c1, c2, c3, rfl⟩ ih2
      show r_laysSeconds_61 Q _ _ (nI q) (nI (qsS nd k).1) (nI k) (nI (48 * q + k)) (nI (s0 + i)) v f4 g
      have e40 : f4 40 (48 * q + k) = nI (nK (nd k)) := by rw [c1 40 (by decide) (by decide)]; exact n1
      have e44 : f4 44 (48 * q + k) = nI (mnN (nd k)) := by rw [c1 44 (by decide) (by decide)]; exact n5
      have go : (nK (nd k) = 7 → i = k - s0) → r_laysSeconds_93 Q (fun b0 b1 b2 v f g => P (b0, b1, b2, v, f, g)) (nI q) (nI (qsS nd k).1) (nI k) (nI (48 * q + k)) v f4 g := by
        intro he
        unfold r_laysSeconds_93
        rw [oc, e44, m44, pk_sub g4]
        refine ⟨oin, ?_⟩
        intro x2 ex2
        rw [ex2]
        unfold r_laysSeconds_103
        rintro _ rfl _ rfl
        rw [nI_add, nI_add]
        have ep : (qsS nd (k + 1)).1 = (qsS nd k).1 - nP (nd k) + 1 := by rw [qs_n nl]; omega
        refine ih _ z ⟨f4, c1, fun i hi => ?_, fun j hj => ?_, by rw [ep]⟩
        · rw [c2, q2, a2 i (by omega)]
        · rw [c3 j hj, q3]
          congr 1
          by_cases cj : j = k
          · rw [cj, upR_s, upR_s]
          · rw [upR_n cj, upR_n cj]
            rcases hi7 with w | w
            · have := he w
              by_cases z3 : s0 ≤ j ∧ j < k
              · rw [if_pos ⟨z3.1, by omega⟩, if_pos ⟨w, z3⟩]
              · rw [if_neg (by omega), if_neg (fun y => z3 y.2)]
            · by_cases w7 : nK (nd k) = 7
              · have := he w7
                omega
              · rw [if_neg (by omega), if_neg (fun y => w7 y.1)]
      unfold r_laysSeconds_61
      rw [oc, e40]
      refine ⟨oin, w_ne (nK (nd k)) 7 (fun c7 => go (fun w => absurd w c7)) (fun c7 => pk_le k (s0 + i) (fun z3 => go (fun _ => by omega)) (fun z3 => ?_))⟩
      refine ⟨pk_in (s0 + i) 48 (by omega), ?_⟩
      intro f5 ef5
      rintro _ rfl
      rw [nI_clamp (show s0 + i < 2 ^ 31 by omega)] at ef5
      rw [nI_add, Nat.add_assoc]
      refine ih2 _ (by omega) ⟨Or.inl c7, f5, fun n h1 h2 => by rw [ef5, mU_n h2]; exact c1 n h1 h2, by rw [ef5, mU_n (by decide)]; exact c2, fun j hj => ?_, rfl⟩
      rw [ef5, mU_s]
      show (if j = s0 + i then bI true else f4 56 j) = _
      by_cases cj : j = s0 + i
      · rw [if_pos cj, upR_n (by omega)]
        rw [if_pos (by omega)]
      · rw [if_neg cj, c3 j hj]
        by_cases ck : j = k
        · rw [ck, upR_s, upR_s]
        · rw [upR_n ck, upR_n ck]
          by_cases z4 : s0 ≤ j ∧ j < s0 + i
          · rw [if_pos z4, if_pos (by omega)]
          · rw [if_neg z4, if_neg (by omega)]
    · rw [b56]
      show (if j = k then bI false else f2 56 j) = _
      by_cases cj : j = k
      · rw [if_pos cj, cj, upR_s]
      · rw [if_neg cj, upR_n cj, a3 j (by omega)]
        rw [if_neg (by omega)]
  · have nl : nLf (nd k) = true := by unfold nLf; rw [decide_eq_true (by omega)]
    obtain ⟨g1, -⟩ := (hq k z).1 nl
    have q2 : (qsS nd (k + 1)).2.1 = upR (qsS nd k).2.1 (qsS nd k).1 k := by rw [qsS, if_pos nl]
    have q3 : (qsS nd (k + 1)).2.2 = upR (qsS nd k).2.2 k false := by rw [qsS, if_pos nl]
    refine ⟨pk_in (qsS nd k).1 50 (by omega), ?_⟩
    intro f4 ef4
    rw [nI_clamp (show (qsS nd k).1 < 2 ^ 31 by omega)] at ef4
    unfold r_laysSeconds_103
    rintro _ rfl _ rfl
    rw [nI_add, nI_add]
    refine ih _ z ⟨f4, fun n h1 h2 => by rw [ef4, mU_n h1]; exact b1 n h1 h2, fun i hi => ?_, fun j hj => ?_, by rw [qs_s nl]⟩
    · rw [qs_s nl] at hi
      rw [ef4, mU_s, q2]
      show (if i = (qsS nd k).1 then nI k else f3 54 i) = _
      by_cases c : i = (qsS nd k).1
      · rw [if_pos c, c, upR_s]
      · rw [if_neg c, upR_n c, b54, a2 i (by omega)]
    · rw [ef4, mU_n (by decide), b56, q3]
      show (if j = k then bI false else f2 56 j) = _
      by_cases c : j = k
      · rw [if_pos c, c, upR_s]
      · rw [if_neg c, upR_n c, a3 j (by omega)]
/-- a question made ready on a snapshot -/
def rRy (v : Nat → Int32) (f : Nat → Nat → Int32) (sg : Nat → List Dc) (hd : Nat → Nat → Nat) (s : Vw) (w0 w1 m : Nat) (nd : Nat → Nd) : Prop := rLv v f sg hd s ∧ (∀ j, j < m → nLf (nd j) = true → f 55 j = nI (gnN w0 w1 (nd j) (rrL nd m sg s.2 s.1 (lfI nd j).length))) ∧ ∀ j, j < m → f 56 j = bI ((qsS nd m).2.2 j)
theorem p_readies {Q : QV} {a k : Nat} {sl : Nat → Option (Nat × Vw)} (hl : rLg v g l) (hs : rSg l v f g made dn sg hd) (hk : rLk f made sg sl) (ha : a < 5) (hsl : sl a = some (k, s)) (hT : (mtL sg s.2 s.1).length ≤ 600) (hid : ∀ n, n ∈ s.1 → n < made) (hq40 : q < 41) (h48 : f 48 q = nI m) (hm : m ≤ 48) (hN : ∀ j, j < m → rNd f g (48 * q + j) (nd j)) (hq : qOk nd m) (h0 : f 49 0 = nI w0) (h1 : f 49 1 = nI w1) (h : ∀ v' f', (∀ i, i ≠ 60 → v' i = v i) → (∀ n, n ∉ [38, 54, 55, 56] → f' n = f n) → rRy v' f' sg hd s w0 w1 m nd → Q v' f' g) : r_readies Q (nI a) (nI q) v f g := by
  unfold r_readies
  refine p_lays hs hk ha hsl hT (fun v1 f1 a1 a2 a3 a4 => ?_)
  have hv : rLv v1 f1 sg hd s := ⟨a3, hT, a4⟩
  have hN1 : ∀ j, j < m → rNd f1 g (48 * q + j) (nd j) := fun j hj => rNd_55 (n := 38) (by omega) a2 (hN j hj)
  have hs1 : rSg l v1 f1 g made dn sg hd := by
    unfold rSg
    rw [a1 29 (by decide), a1 26 (by decide), a2 20 (by decide), a2 19 (by decide), a2 14 (by decide), a2 15 (by decide), a2 16 (by decide), a2 18 (by decide)]; exact hs
  refine p_laysGains (rLg_fr (a1 9 (by decide)) (a1 6 (by decide)) rfl rfl rfl hl) hs1 hv hid hq40 (by rw [a2 48 (by decide)]; exact h48) hm hN1 hq (by rw [a2 49 (by decide)]; exact h0) (by rw [a2 49 (by decide)]; exact h1) (fun f2 b1 b2 => ?_)
  refine p_laysSeconds hq40 (by rw [b1 48 (by decide), a2 48 (by decide)]; exact h48) hm (fun j hj => rNd_55 (n := 55) (by omega) b1 (hN1 j hj)) hq (fun f3 c1 c2 => ?_)
  refine h v1 f3 a1 (fun n hn => ?_) ⟨?_, fun j hj lf => ?_, c2⟩
  · rw [c1 n (fun e => hn (by rw [e]; decide)) (fun e => hn (by rw [e]; decide)), b1 n (fun e => hn (by rw [e]; decide)), a2 n (fun e => hn (by rw [e]; decide))]
  · unfold rLv
    rw [c1 38 (by decide) (by decide), b1 38 (by decide)]; exact hv
  · rw [c1 55 (by decide) (by decide)]; exact b2 j hj lf
end RG
