/-! the reference: writes, flushes -/
section WR
variable {v v' : Nat → Int32} {f f' : Nat → Nat → Int32} {g g' : Nat → Nat → Int64} {l : LGt} {B : List Dc} {made dn w : Nat} {sg : Nat → List Dc} {hd : Nat → Nat → Nat} {ids : List Nat} {lv : Nat → Nat → Bool} {cc : Option Nat}
/-- the machine has gone DOWN -/
def rDn (v : Nat → Int32) (f : Nat → Nat → Int32) : Prop := v 98 = bI true ∧ v 20 = nI 0 ∧ v 49 = bI false ∧ v 40 = bI false ∧ v 85 = nI 0 ∧ v 88 = nI 0 ∧ v 89 = nI 0 ∧ v 90 = nI 0 ∧ v 34 = nI 0 ∧ ∀ k, k < 5 → f 29 k = -1
theorem p_writes1 {Q : QI} (h97 : v 97 = cIn cc) (h96 : v 96 = nI w) (hc : ∀ k, cc = some k → k ≤ 1000) (h1 : cc ≠ some 0 → ∀ v', (∀ i, i ≠ 96 → i ≠ 97 → v' i = v i) → v' 96 = nI (w + 1) → v' 97 = cIn (cc.map (fun k => k - 1)) → Q (bI true) v' f g) (h0 : cc = some 0 → ∀ v' f', rF [98, 20, 49, 40, 85, 88, 89, 90, 34] [29] [] v f g v' f' g → rDn v' f' → Q (bI false) v' f' g) : r_writes1 Q v f g := by
  unfold r_writes1
  rw [h97]
  have go : ∀ t0 t1 : Int32, cc ≠ some 0 → t1 - t0 = cIn (cc.map (fun k => k - 1)) → r_writes1_91 Q t0 t1 v f g := by
    intro t0 t1 hne ht
    unfold r_writes1_91
    rintro v1 e1 v2 e2
    have a96 : v1 96 = nI w := by rw [e1, upd_n (by decide)]; exact h96
    rw [a96, nI_add] at e2
    refine h1 hne v2 (fun i h1 h2 => by rw [e2, upd_n h1, e1, upd_n h2]) (by rw [e2]; exact upd_at) ?_
    rw [e2, upd_n (by decide), e1, ← ht]; exact upd_at
  cases cc with
  | none =>
    refine ⟨fun _ => ⟨fun _ => go _ _ (by simp) (by decide), fun c => absurd (by decide) c⟩, fun c => absurd c (by decide)⟩
  | some k =>
    have hk := hc k rfl
    show (¬ nI k = 0 → _) ∧ (nI k = 0 → _)
    refine w_nz k (fun c => ?_) (fun c => ?_)
    · show (nI k ≤ 0 → _) ∧ _
      refine pk_le k 0 (fun z => absurd z (by omega)) (fun z => go _ _ (by intro e; have := Option.some.inj e; omega) ?_)
      show nI k - nI 1 = nI (k - 1)
      exact pk_sub (by omega)
    · subst c
      rintro v3 e3 v4 e4 v5 e5 v6 e6 v7 e7 v8 e8 v9 e9 v10 e10 v11 e11
      have o : ∀ i, i ∉ [98, 20, 49, 40, 85, 88, 89, 90, 34] → v11 i = v i := fun i hi => by
        have n : ∀ j, j ∈ [98, 20, 49, 40, 85, 88, 89, 90, 34] → i ≠ j := fun j hj e => hi (by rw [e]; exact hj)
        rw [e11, upd_n (n 34 (by decide)), e10, upd_n (n 90 (by decide)), e9, upd_n (n 89 (by decide)), e8, upd_n (n 88 (by decide)), e7, upd_n (n 85 (by decide)), e6, upd_n (n 40 (by decide)), e5, upd_n (n 49 (by decide)), e4, upd_n (n 20 (by decide)), e3, upd_n (n 98 (by decide))]
      unfold r_writes1_54L
      refine lfp_cnt 5 (fun k y => ∃ f', (∀ n, n ≠ 29 → f' n = f n) ∧ (∀ j, j < k → f' 29 j = -1) ∧ y = (nI k, v11, f', g)) ?_ ⟨f, fun _ _ => rfl, fun j hj => absurd hj (Nat.not_lt_zero j), rfl⟩
      rintro P k _ hk5 ⟨f', f1, f2, rfl⟩ ih
      show r_writes1_54 Q _ (nI k) v11 f' g
      unfold r_writes1_54
      rw [nI_clamp (show k < 2 ^ 31 by omega)]
      refine pk_le 5 k (fun z => ?_) (fun z => ⟨pk_in k 5 z, fun f12 e12 => ?_⟩)
      · obtain rfl : k = 5 := by omega
        refine h0 rfl v11 f' ⟨o, fun n hn => f1 n (fun e => hn (by rw [e]; decide)), fun _ _ => rfl⟩ ⟨?_, ?_, ?_, ?_, ?_, ?_, ?_, ?_, ?_, f2⟩
        · rw [e11, upd_n (by decide), e10, upd_n (by decide), e9, upd_n (by decide), e8, upd_n (by decide), e7, upd_n (by decide), e6, upd_n (by decide), e5, upd_n (by decide), e4, upd_n (by decide), e3]; exact upd_at
        · rw [e11, upd_n (by decide), e10, upd_n (by decide), e9, upd_n (by decide), e8, upd_n (by decide), e7, upd_n (by decide), e6, upd_n (by decide), e5, upd_n (by decide), e4]; exact upd_at
        · rw [e11, upd_n (by decide), e10, upd_n (by decide), e9, upd_n (by decide), e8, upd_n (by decide), e7, upd_n (by decide), e6, upd_n (by decide), e5]; exact upd_at
        · rw [e11, upd_n (by decide), e10, upd_n (by decide), e9, upd_n (by decide), e8, upd_n (by decide), e7, upd_n (by decide), e6]; exact upd_at
        · rw [e11, upd_n (by decide), e10, upd_n (by decide), e9, upd_n (by decide), e8, upd_n (by decide), e7]; exact upd_at
        · rw [e11, upd_n (by decide), e10, upd_n (by decide), e9, upd_n (by decide), e8]; exact upd_at
        · rw [e11, upd_n (by decide), e10, upd_n (by decide), e9]; exact upd_at
        · rw [e11, upd_n (by decide), e10]; exact upd_at
        · rw [e11]; exact upd_at
      · rintro _ rfl
        rw [nI_add]
        refine ih _ z ⟨f12, fun n hn => by rw [e12, mU_n hn]; exact f1 n hn, fun j hj => ?_, rfl⟩
        rw [e12, mU_s]
        show (if j = k then _ else f' 29 j) = _
        by_cases c : j = k
        · rw [if_pos c]
        · rw [if_neg c]; exact f2 j (by omega)
/-- the buffer is a segment now -/
def sgF (made : Nat) (sg : Nat → List Dc) (B : List Dc) : Nat → List Dc := upR sg made B
def hdF (made dn : Nat) (hd : Nat → Nat → Nat) : Nat → Nat → Nat := upR hd made (fun j => dn + j)
def lvF (made : Nat) (lv : Nat → Nat → Bool) : Nat → Nat → Bool := fun n j => if n = made then true else lv n j
theorem p_flushes {Q : QI} (h97 : v 97 = cIn cc) (h96 : v 96 = nI w) (hc : ∀ k, cc = some k → k ≤ 1000) (hb : rBf l v f g B) (hs : rSg l v f g made dn sg hd) (hi : rIx v f made sg ids lv) (hm : B ≠ [] → made ≤ 200) (hl' : B ≠ [] → ids.length < 200) (h0 : B = [] → Q (-1) v f g) (h1 : ∀ j v' f', B ≠ [] → j ≤ B.length → cc = some j → rF [96, 97, 98, 20, 49, 40, 85, 88, 89, 90, 34] [29] [] v f g v' f' g → v' 96 = nI (w + j) → v' 97 = nI 0 → rDn v' f' → Q (-2) v' f' g) (h2 : ∀ v' f' g', B ≠ [] → (∀ k, cc = some k → B.length < k) → rF [96, 97, 20, 26, 29, 34] [14, 15, 16, 18, 19, 20, 21, 22, 24] [17] v f g v' f' g' → zK f f' 21 → zK f f' 22 → v' 96 = nI (w + (B.length + 1)) → v' 97 = cIn (cc.map (fun k => k - (B.length + 1))) → v' 20 = nI 0 → rSg l v' f' g' (made + 1) (dn + B.length) (sgF made sg B) (hdF made dn hd) → rIx v' f' (made + 1) (sgF made sg B) (ids ++ [made]) (lvF made lv) → (∀ j, j < B.length → f' 22 (100 * made + j) = bI true) → (∀ c, c < 100 * made → f' 21 c = f 21 c ∧ f' 22 c = f 22 c) → Q (nI made) v' f' g') : r_flushes Q v f g := by
  obtain ⟨b1, b2, b3⟩ := id hb
  unfold r_flushes
  rw [b1]
  rintro _ rfl
  refine w_nz B.length (fun c => ?_) (fun c => h0 (List.length_eq_zero_iff.mp c))
  have hB : B ≠ [] := fun e => by rw [e] at c; exact absurd c (by decide)
  have m200 := hm hB
  have hl := hl' hB
  unfold r_flushes_13L
  refine lfp_cnt (B.length + 1) (fun k y => ∃ v', (∀ i, i ≠ 96 → i ≠ 97 → v' i = v i) ∧ v' 96 = nI (w + k) ∧ v' 97 = cIn (cc.map (fun m => m - k)) ∧ (∀ m, cc = some m → k ≤ m) ∧ y = (nI B.length, nI k, v', f, g)) ?_ ⟨v, fun _ _ _ => rfl, h96, by rw [h97]; cases cc <;> rfl, fun m _ => Nat.zero_le m, rfl⟩
  rintro P k _ hk ⟨v1, o1, w1, c1, k1, rfl⟩ ih
  show r_flushes_13 Q _ (nI B.length) (nI k) v1 f g
  unfold r_flushes_13
  refine pk_lt B.length k (fun z => ?_) (fun z => ?_)
  · obtain rfl : k = B.length + 1 := by omega
    -- all is written
    obtain ⟨⟨s1, s2⟩, ⟨s3, s4⟩, s5⟩ := id hs
    obtain ⟨i1, i2, i3, i4⟩ := id hi
    unfold r_flushes_36L
    refine lfp_cnt B.length (fun i y => ∃ v2 f2 g2, (∀ m, m ≠ 26 → v2 m = v1 m) ∧ v2 26 = nI (dn + i) ∧ (∀ n, n ∉ [14, 15, 16, 18, 19, 21, 22] → f2 n = f n) ∧ (∀ n, n ≠ 17 → g2 n = g n) ∧ (∀ c, c < dn → f2 14 c = f 14 c ∧ f2 15 c = f 15 c ∧ f2 16 c = f 16 c) ∧ (∀ c, c < 2 * dn → f2 18 c = f 18 c) ∧ (∀ c, c < 40 * dn → g2 17 c = g 17 c) ∧ (∀ j d, j < i → B[j]? = some d → rDc l (f2 14) (f2 15) (f2 16) (f2 18) (g2 17) (dn + j) d) ∧ (∀ j, j < i → f2 19 (100 * made + j) = nI (dn + j) ∧ f2 21 (100 * made + j) = bI true ∧ f2 22 (100 * made + j) = bI true) ∧ (∀ c, c < 100 * made → f2 19 c = f 19 c ∧ f2 21 c = f 21 c ∧ f2 22 c = f 22 c) ∧ (zK f f2 21 ∧ zK f f2 22) ∧ y = (nI B.length, nI i, v2, f2, g2)) ?_ ⟨v1, f, g, fun _ _ => rfl, (o1 26 (by decide) (by decide)).trans s3, fun _ _ => rfl, fun _ _ => rfl, fun _ _ => ⟨rfl, rfl, rfl⟩, fun _ _ => rfl, fun _ _ => rfl, fun j d hj => absurd hj (Nat.not_lt_zero j), fun j hj => absurd hj (Nat.not_lt_zero j), fun _ _ => ⟨rfl, rfl, rfl⟩, ⟨zK_rf, zK_rf⟩, rfl⟩
    rintro P2 i _ hi2 ⟨v2, f2, g2, a1, a2, a3, a4, a5, a6, a7, a8, a9, a10, a11, rfl⟩ ih2
    show r_flushes_36 Q _ (nI B.length) (nI i) v2 f2 g2
    have v29 : v2 29 = nI made := (a1 29 (by decide)).trans ((o1 29 (by decide) (by decide)).trans s1)
    have v34 : v2 34 = nI ids.length := (a1 34 (by decide)).trans ((o1 34 (by decide) (by decide)).trans i1)
    have clm : (nI made).toNatClampNeg = made := nI_clamp (by omega)
    have cld : (nI (dn + i)).toNatClampNeg = dn + i := nI_clamp (by omega)
    have cli : (nI i).toNatClampNeg = i := nI_clamp (by omega)
    unfold r_flushes_36
    rw [v29, v34, a2, clm, cld, cli]
    refine pk_le B.length i (fun z2 => ⟨pk_in made 202 (by omega), fun f3 e3 => ⟨pk_in ids.length 202 (by omega), fun f4 e4 v4 e5 v5 e6 v6 e7 => ?_⟩⟩) (fun z2 => ?_)
    · obtain rfl : i = B.length := by omega
      rw [nI_clamp (show ids.length < 2 ^ 31 by omega)] at e4
      rw [nI_add] at e5
      have v429 : v4 29 = nI made := by rw [e5, upd_n (by decide)]; exact v29
      rw [v429, nI_add] at e6
      have v629 : v6 29 = nI (made + 1) := by rw [e7, upd_n (by decide), e6]; exact upd_at
      rw [v629, pk_sub (by omega), Nat.add_sub_cancel]
      have vo : ∀ j, j ≠ 20 → j ≠ 29 → j ≠ 34 → j ≠ 26 → v6 j = v1 j := fun j h1 h2 h3 h4 => by rw [e7, upd_n h1, e6, upd_n h2, e5, upd_n h3]; exact a1 j h4
      have fo : ∀ n, n ≠ 20 → n ≠ 24 → f4 n = f2 n := fun n h1 h2 => by rw [e4, mU_n h2, e3, mU_n h1]
      have r20 : f4 20 = fun k => if k = made then nI B.length else f 20 k := by rw [e4, mU_n (by decide), e3, mU_s, a3 20 (by decide)]
      have r24 : f4 24 = fun k => if k = ids.length then nI made else f 24 k := by rw [e4, mU_s, e3, mU_n (by decide), a3 24 (by decide)]
      have docs : ∀ c d, c < dn → rDc l (f 14) (f 15) (f 16) (f 18) (g 17) c d → rDc l (f4 14) (f4 15) (f4 16) (f4 18) (g2 17) c d := fun c d hcd hr => rDc_cp (by rw [fo 14 (by decide) (by decide)]; exact (a5 c hcd).1) (by rw [fo 15 (by decide) (by decide)]; exact (a5 c hcd).2.1) (by rw [fo 16 (by decide) (by decide)]; exact (a5 c hcd).2.2) (fun fl hfl => by rw [fo 18 (by decide) (by decide)]; exact a6 _ (by omega)) (fun q hq => a7 _ (by omega)) hr
      have seg : ∀ n, n < made → sgF made sg B n = sg n := fun n hn => upR_n (by omega)
      have segm : sgF made sg B made = B := upR_s
      refine h2 v6 f4 g2 hB (fun m hm2 => by have := k1 m hm2; omega) ⟨fun j hj => ?_, fun n hn => ?_, fun n hn => a4 n (fun e => hn (by rw [e]; decide))⟩ (zK_tr a11.1 (zK_eq (fo 21 (by decide) (by decide)))) (zK_tr a11.2 (zK_eq (fo 22 (by decide) (by decide)))) ((vo 96 (by decide) (by decide) (by decide) (by decide)).trans w1) ((vo 97 (by decide) (by decide) (by decide) (by decide)).trans c1) (by rw [e7]; exact upd_at) ⟨⟨v629, by omega⟩, ⟨?_, by omega⟩, fun n hn => ?_⟩ ⟨?_, by rw [List.length_append]; show ids.length + 1 ≤ 200; omega, fun k n hkn => ?_, fun n hn j hj => ?_⟩ (fun j hj => by rw [fo 22 (by decide) (by decide)]; exact (a9 j hj).2.2) (fun c hc2 => by rw [fo 21 (by decide) (by decide), fo 22 (by decide) (by decide)]; exact (a10 c hc2).2)
      · rw [vo j (fun e => hj (by rw [e]; decide)) (fun e => hj (by rw [e]; decide)) (fun e => hj (by rw [e]; decide)) (fun e => hj (by rw [e]; decide))]
        exact o1 j (fun e => hj (by rw [e]; decide)) (fun e => hj (by rw [e]; decide))
      · rw [fo n (fun e => hn (by rw [e]; decide)) (fun e => hn (by rw [e]; decide))]
        refine a3 n (fun w => hn ?_)
        revert w; simp only [List.mem_cons, List.not_mem_nil, or_false]; omega
      · rw [e7, upd_n (by decide), e6, upd_n (by decide), e5, upd_n (by decide)]; exact a2
      · by_cases cn' : n = made
        · subst cn'
          rw [segm]
          refine ⟨by rw [r20]; exact if_pos rfl, by omega, fun j d hj => ?_⟩
          have jl := get_lt hj
          rw [fo 19 (by decide) (by decide), fo 14 (by decide) (by decide), fo 15 (by decide) (by decide), fo 16 (by decide) (by decide), fo 18 (by decide) (by decide), show hdF n dn hd n j = dn + j by unfold hdF; rw [upR_s]]
          exact ⟨(a9 j jl).1, by omega, a8 j d jl hj⟩
        · have nl : n < made := by omega
          obtain ⟨t1, t2, t3⟩ := s5 n nl
          rw [seg n nl]
          refine ⟨by rw [r20]; exact (if_neg cn').trans t1, t2, fun j d hj => ?_⟩
          obtain ⟨u1, u2, u3⟩ := t3 j d hj
          have jl := get_lt hj
          rw [show hdF made dn hd n j = hd n j by unfold hdF; rw [upR_n cn']]
          refine ⟨by rw [fo 19 (by decide) (by decide), (a10 _ (by omega)).1]; exact u1, by omega, docs _ d u2 u3⟩
      · rw [e7, upd_n (by decide), e6, upd_n (by decide), e5, List.length_append]; exact upd_at
      · rw [r24]
        show (if k = ids.length then nI made else f 24 k) = nI n ∧ n < made + 1
        rcases app1_get.mp hkn with hkn | ⟨rfl, rfl⟩
        · have kl := get_lt hkn
          obtain ⟨t1, t2⟩ := i3 k n hkn
          rw [if_neg (by omega)]; exact ⟨t1, by omega⟩
        · rw [if_pos rfl]; exact ⟨rfl, Nat.lt_succ_self _⟩
      · rw [fo 21 (by decide) (by decide)]
        by_cases cn' : n = made
        · subst cn'
          rw [segm] at hj
          rw [(a9 j hj).2.1]
          unfold lvF
          rw [if_pos rfl]
        · have hn2 : n ∈ ids := by
            rcases List.mem_append.mp hn with q | q
            · exact q
            · exact absurd (List.mem_singleton.mp q) cn'
          obtain ⟨kk, hkk⟩ := List.getElem?_of_mem hn2
          have nl := (i3 kk n hkk).2
          rw [seg n nl] at hj
          have := (s5 n nl).2.1
          rw [(a10 _ (by omega)).2.1, i4 n hn2 j hj]
          unfold lvF
          rw [if_neg cn']
    · -- one more document
      have h12 : i < 12 := by omega
      have hdn : dn + i < 2424 := by omega
      refine ⟨pk_in i 12 h12, pk_in (dn + i) 2424 hdn, fun f7 e7 => ⟨pk_in i 12 h12, pk_in (dn + i) 2424 hdn, fun f8 e8 => ⟨pk_in i 12 h12, pk_in (dn + i) 2424 hdn, fun f9 e9 => ?_⟩⟩⟩
      have o9 : ∀ n, n ≠ 14 → n ≠ 15 → n ≠ 16 → f9 n = f2 n := fun n h1 h2 h3 => by rw [e9, mU_n h3, e8, mU_n h2, e7, mU_n h1]
      have b9 : f2 9 = f 9 := a3 9 (by decide)
      have b10 : f2 10 = f 10 := a3 10 (by decide)
      have b11 : f2 11 = f 11 := a3 11 (by decide)
      have b13 : f2 13 = f 13 := a3 13 (by decide)
      have b12 : g2 12 = g 12 := a4 12 (by decide)
      have q14 : f9 14 = fun k => if k = dn + i then f 9 i else f2 14 k := by rw [e9, mU_n (by decide), e8, mU_n (by decide), e7, mU_s, b9]
      have q15 : f9 15 = fun k => if k = dn + i then f 10 i else f2 15 k := by rw [e9, mU_n (by decide), e8, mU_s, e7, mU_n (by decide), mU_n (by decide), b10]
      have q16 : f9 16 = fun k => if k = dn + i then f 11 i else f2 16 k := by rw [e9, mU_s, e8, mU_n (by decide), mU_n (by decide), e7, mU_n (by decide), mU_n (by decide), b11]
      unfold r_flushes_88L
      refine lfp_cnt 40 (fun q y => ∃ g3, (∀ n, n ≠ 17 → g3 n = g2 n) ∧ (∀ j, j < q → g3 17 (40 * (dn + i) + j) = g 12 (40 * i + j)) ∧ (∀ c, c < 40 * (dn + i) → g3 17 c = g2 17 c) ∧ y = (nI B.length, nI i, nI q, v2, f9, g3)) ?_ ⟨g2, fun _ _ => rfl, fun j hj => absurd hj (Nat.not_lt_zero j), fun _ _ => rfl, rfl⟩
      rintro P3 q _ hq ⟨g3, n1, n2, n3, rfl⟩ ih3
      show r_flushes_88 Q _ _ (nI B.length) (nI i) (nI q) v2 f9 g3
      unfold r_flushes_88
      rw [v29, a2, pk_mul, pk_mul, pk_mul, pk_mul, pk_mul, nI_add, nI_add, nI_add, nI_add, nI_add, nI_add, nI_add, nI_clamp (show 2 * i < 2 ^ 31 by omega), nI_clamp (show 2 * (dn + i) < 2 ^ 31 by omega), nI_clamp (show 2 * i + 1 < 2 ^ 31 by omega), nI_clamp (show 2 * (dn + i) + 1 < 2 ^ 31 by omega), nI_clamp (show 100 * made + i < 2 ^ 31 by omega), nI_clamp (show 40 * i + q < 2 ^ 31 by omega), nI_clamp (show 40 * (dn + i) + q < 2 ^ 31 by omega)]
      have ic : vp_in (nI (100 * made + i)) 20200 := pk_in (100 * made + i) 20200 (by omega)
      refine pk_le 40 q (fun z3 => ⟨pk_in (2 * i) 24 (by omega), pk_in (2 * (dn + i)) 4848 (by omega), fun f10 e10 => ⟨pk_in (2 * i + 1) 24 (by omega), pk_in (2 * (dn + i) + 1) 4848 (by omega), fun f11 e11 => ⟨ic, fun f12 e12 => ⟨ic, fun f13 e13 => ⟨ic, fun f14 e14 v15 e15 => ?_⟩⟩⟩⟩⟩) (fun z3 => ⟨pk_in (40 * i + q) 480 (by omega), pk_in (40 * (dn + i) + q) 96960 (by omega), fun g17 e17 => ?_⟩)
      · obtain rfl : q = 40 := by omega
        rintro _ rfl
        have p18 : f14 18 = fun k => if k = 2 * (dn + i) + 1 then f 13 (2 * i + 1) else if k = 2 * (dn + i) then f 13 (2 * i) else f2 18 k := by
          have x10 : f10 18 = fun k => if k = 2 * (dn + i) then f 13 (2 * i) else f2 18 k := by rw [e10, mU_s, o9 13 (by decide) (by decide) (by decide), b13, o9 18 (by decide) (by decide) (by decide)]
          have x13 : f10 13 = f 13 := by rw [e10, mU_n (by decide), o9 13 (by decide) (by decide) (by decide), b13]
          rw [e14, mU_n (by decide), e13, mU_n (by decide), e12, mU_n (by decide), e11, mU_s, x13, x10]
        have p19 : f14 19 = fun k => if k = 100 * made + i then nI (dn + i) else f2 19 k := by
          rw [e14, mU_n (by decide), e13, mU_n (by decide), e12, mU_s, e11, mU_n (by decide), e10, mU_n (by decide), o9 19 (by decide) (by decide) (by decide)]
        have p21 : f14 21 = fun k => if k = 100 * made + i then bI true else f2 21 k := by
          rw [e14, mU_n (by decide), e13, mU_s, e12, mU_n (by decide), e11, mU_n (by decide), e10, mU_n (by decide), o9 21 (by decide) (by decide) (by decide)]
        have p22 : f14 22 = fun k => if k = 100 * made + i then bI true else f2 22 k := by
          rw [e14, mU_s, e13, mU_n (by decide), e12, mU_n (by decide), e11, mU_n (by decide), e10, mU_n (by decide), o9 22 (by decide) (by decide) (by decide)]
        have po : ∀ n, n ≠ 18 → n ≠ 19 → n ≠ 21 → n ≠ 22 → f14 n = f9 n := fun n h1 h2 h3 h4 => by rw [e14, mU_n h4, e13, mU_n h3, e12, mU_n h2, e11, mU_n h1, e10, mU_n h1]
        refine ih2 _ z2 ⟨v15, f14, g3, fun m hm2 => by rw [e15, upd_n hm2]; exact a1 m hm2, by rw [e15]; exact upd_at, fun n hn => ?_, fun n hn => (n1 n hn).trans (a4 n hn), fun c hc2 => ?_, fun c hc2 => ?_, fun c hc2 => ?_, fun j d hj hB2 => ?_, fun j hj => ?_, fun c hc2 => ?_, ⟨zK_tr a11.1 (zK_up p21), zK_tr a11.2 (zK_up p22)⟩, rfl⟩
        · have ne : ∀ m, m ∈ [14, 15, 16, 18, 19, 21, 22] → n ≠ m := fun m hm2 e => hn (by rw [e]; exact hm2)
          rw [po n (ne 18 (by decide)) (ne 19 (by decide)) (ne 21 (by decide)) (ne 22 (by decide)), o9 n (ne 14 (by decide)) (ne 15 (by decide)) (ne 16 (by decide))]
          exact a3 n hn
        · rw [po 14 (by decide) (by decide) (by decide) (by decide), po 15 (by decide) (by decide) (by decide) (by decide), po 16 (by decide) (by decide) (by decide) (by decide), q14, q15, q16]
          show (if c = dn + i then _ else f2 14 c) = _ ∧ (if c = dn + i then _ else f2 15 c) = _ ∧ (if c = dn + i then _ else f2 16 c) = _
          rw [if_neg (by omega), if_neg (by omega), if_neg (by omega)]
          exact a5 c hc2
        · rw [p18]
          show (if c = 2 * (dn + i) + 1 then _ else if c = 2 * (dn + i) then _ else f2 18 c) = _
          rw [if_neg (by omega), if_neg (by omega)]; exact a6 c hc2
        · rw [n3 c (by omega)]; exact a7 c hc2
        · by_cases cj : j = i
          · subst cj
            refine rDc_cp (k := j) ?_ ?_ ?_ (fun fl hfl => ?_) (fun q' hq' => n2 q' hq') (b3 j d hB2)
            · rw [po 14 (by decide) (by decide) (by decide) (by decide), q14]; exact if_pos rfl
            · rw [po 15 (by decide) (by decide) (by decide) (by decide), q15]; exact if_pos rfl
            · rw [po 16 (by decide) (by decide) (by decide) (by decide), q16]; exact if_pos rfl
            · rw [p18]
              rcases (show fl = 0 ∨ fl = 1 by omega) with rfl | rfl
              · show (if 2 * (dn + j) + 0 = 2 * (dn + j) + 1 then _ else if 2 * (dn + j) + 0 = 2 * (dn + j) then f 13 (2 * j) else _) = _
                rw [if_neg (by omega), if_pos (by omega), Nat.add_zero]
              · show (if 2 * (dn + j) + 1 = 2 * (dn + j) + 1 then f 13 (2 * j + 1) else _) = _
                rw [if_pos rfl]
          · refine rDc_cp (k := dn + j) ?_ ?_ ?_ (fun fl hfl => ?_) (fun q' hq' => n3 _ (by omega)) (a8 j d (by omega) hB2)
            · rw [po 14 (by decide) (by decide) (by decide) (by decide), q14]; exact if_neg (by omega)
            · rw [po 15 (by decide) (by decide) (by decide) (by decide), q15]; exact if_neg (by omega)
            · rw [po 16 (by decide) (by decide) (by decide) (by decide), q16]; exact if_neg (by omega)
            · rw [p18]
              show (if 2 * (dn + j) + fl = 2 * (dn + i) + 1 then _ else if 2 * (dn + j) + fl = 2 * (dn + i) then _ else f2 18 _) = _
              rw [if_neg (by omega), if_neg (by omega)]
        · rw [p19, p21, p22]
          show (if 100 * made + j = 100 * made + i then nI (dn + i) else f2 19 _) = _ ∧ (if 100 * made + j = 100 * made + i then bI true else f2 21 _) = _ ∧ (if 100 * made + j = 100 * made + i then bI true else f2 22 _) = _
          by_cases cj : j = i
          · subst cj; rw [if_pos rfl, if_pos rfl, if_pos rfl]; exact ⟨rfl, rfl, rfl⟩
          · rw [if_neg (by omega), if_neg (by omega), if_neg (by omega)]; exact a9 j (by omega)
        · rw [p19, p21, p22]
          show (if c = 100 * made + i then _ else f2 19 c) = _ ∧ (if c = 100 * made + i then _ else f2 21 c) = _ ∧ (if c = 100 * made + i then _ else f2 22 c) = _
          rw [if_neg (by omega), if_neg (by omega), if_neg (by omega)]; exact a10 c hc2
      · rintro _ rfl
        rw [nI_add]
        have n12 : g3 12 = g 12 := (n1 12 (by decide)).trans b12
        have x17 : g17 17 = fun k => if k = 40 * (dn + i) + q then g 12 (40 * i + q) else g3 17 k := by rw [e17, mU_s, n12]
        refine ih3 _ z3 ⟨g17, fun n hn => by rw [e17, mU_n hn]; exact n1 n hn, fun j hj => ?_, fun c hc2 => ?_, rfl⟩
        · rw [x17]
          show (if 40 * (dn + i) + j = 40 * (dn + i) + q then g 12 (40 * i + q) else g3 17 _) = _
          by_cases cj : j = q
          · subst cj; rw [if_pos rfl]
          · rw [if_neg (by omega)]; exact n2 j (by omega)
        · rw [x17]
          show (if c = 40 * (dn + i) + q then _ else g3 17 c) = _
          rw [if_neg (by omega)]; exact n3 c hc2
  · refine p_writes1 (cc := cc.map (fun m => m - k)) (w := w + k) c1 w1 (fun m hm2 => ?_) (fun hne v2 o2 w2 c2 => ⟨fun _ => ?_, fun c => absurd c (by decide)⟩) (fun hz v2 f2 hF hD => ⟨fun c => absurd rfl c, fun _ => ?_⟩)
    · cases hcc : cc with
      | none => rw [hcc] at hm2; exact absurd hm2 (by simp)
      | some m' =>
        rw [hcc] at hm2
        have e9 : m' - k = m := Option.some.inj hm2
        have := hc m' hcc
        omega
    · rintro _ rfl
      rw [nI_add]
      refine ih _ (by omega) ⟨v2, fun i h1 h2 => (o2 i h1 h2).trans (o1 i h1 h2), by rw [w2, Nat.add_assoc], ?_, fun m hm2 => ?_, rfl⟩
      · rw [c2]
        cases cc with
        | none => rfl
        | some m => show nI (m - k - 1) = nI (m - (k + 1)); congr 1
      · have h3 := k1 m hm2
        rw [hm2] at hne
        have : m - k ≠ 0 := fun e => hne (by show some (m - k) = some 0; rw [e])
        omega
    · cases hcc : cc with
      | none => rw [hcc] at hz; exact absurd hz (by simp)
      | some m =>
        rw [hcc] at hz
        have e0 : m - k = 0 := Option.some.inj hz
        have h3 := k1 m hcc
        obtain rfl : m = k := by omega
        have o : ∀ i, i ∉ [96, 97, 98, 20, 49, 40, 85, 88, 89, 90, 34] → v2 i = v i := fun i hi => by
          rw [hF.1 i (fun w => hi (by revert w; simp only [List.mem_cons, List.not_mem_nil, or_false]; omega))]
          exact o1 i (fun e => hi (by rw [e]; decide)) (fun e => hi (by rw [e]; decide))
        refine h1 m v2 f2 hB z hcc ⟨o, hF.2.1, hF.2.2⟩ ((hF.1 96 (by decide)).trans w1) ((hF.1 97 (by decide)).trans ?_) hD
        rw [c1, hcc]
        show nI (m - m) = nI 0
        rw [Nat.sub_self]
end WR
