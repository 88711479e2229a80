/-! the reference: a snapshot is opened -/
section LO
variable {v v' : Nat → Int32} {f f' : Nat → Nat → Int32} {g g' : Nat → Nat → Int64} {l : LGt} {made dn op : Nat} {sg : Nat → List Dc} {hd : Nat → Nat → Nat} {sl : Nat → Option (Nat × Vw)} {ids : List Nat} {lv : Nat → Nat → Bool} {cm pr : Option Vw} {mg : Option (Vw × Nat)} {off : Bool}
set_option maxRecDepth 100000 in
theorem p_look102 {Q : QI} {b : Bool} {a : Nat} {s : Vw} {row lr : Nat} (hb : (b = true → row = 24 ∧ lr = 21) ∧ (b = false → row = 25 ∧ lr = 26)) (hs : rSg l v f g made dn sg hd) (ha : a < 5) (h48 : v 48 = nI op) (hop : op < 2 ^ 20) (h31 : f 31 a = nI s.1.length) (hV : rVw f row lr made sg s) (h : ∀ v' f', rF [48] [30, 32] [] v f g v' f' g → v' 48 = nI (op + 1) → (∀ c, (c < 202 * a ∨ 202 * a + 202 ≤ c) → f' 30 c = f 30 c) → (∀ c, (c < 20200 * a ∨ 20200 * a + 20200 ≤ c) → f' 32 c = f 32 c) → (∀ j n, s.1[j]? = some n → f' 30 (202 * a + j) = nI n) → (∀ n, n ∈ s.1 → ∀ j, j < (sg n).length → f' 32 (20200 * a + (100 * n + j)) = bI (s.2 n j)) → Q (nI op) v' f' g) : r_look_102L Q (bI b) (nI a) (nI 0) v f g := by
  have m201 := hs.1.2
  obtain ⟨p1, p2, p3⟩ := hV
  have ac : (nI a).toNatClampNeg = a := nI_clamp (by omega)
  unfold r_look_102L
  refine lfp_cnt s.1.length (fun k y => ∃ f', (∀ m, m ≠ 30 → m ≠ 32 → f' m = f m) ∧ (∀ c, (c < 202 * a ∨ 202 * a + 202 ≤ c) → f' 30 c = f 30 c) ∧ (∀ c, (c < 20200 * a ∨ 20200 * a + 20200 ≤ c) → f' 32 c = f 32 c) ∧ (∀ j n, j < k → s.1[j]? = some n → f' 30 (202 * a + j) = nI n) ∧ (∀ n, n ∈ s.1.take k → ∀ j, j < (sg n).length → f' 32 (20200 * a + (100 * n + j)) = bI (s.2 n j)) ∧ y = (bI b, nI a, nI k, v, f', g)) ?_ ⟨f, fun _ _ _ => rfl, fun _ _ => rfl, fun _ _ => rfl, fun j n hj => absurd hj (Nat.not_lt_zero j), fun n hn => absurd hn List.not_mem_nil, rfl⟩
  rintro P k _ hk ⟨f', a1, a2, a3, a4, a5, rfl⟩ ih
  show r_look_102 Q _ (bI b) (nI a) (nI k) v f' g
  unfold r_look_102
  rw [ac, a1 31 (by decide) (by decide), h31]
  refine ⟨pk_in a 5 ha, pk_le s.1.length k (fun z => ?_) (fun z => ?_)⟩
  · obtain rfl : k = s.1.length := by omega
    rw [List.take_length] at a5
    rw [h48, nI_add]
    rintro v5 e5
    have v548 : v5 48 = nI (op + 1) := by rw [e5]; exact upd_at
    rw [v548, pk_sub (by omega), Nat.add_sub_cancel]
    exact h v5 f' ⟨fun i hi => by rw [e5, upd_n (fun e => hi (by rw [e]; decide))], fun n hn => a1 n (fun e => hn (by rw [e]; decide)) (fun e => hn (by rw [e]; decide)), fun _ _ => rfl⟩ v548 a2 a3 (fun j n hj => a4 j n (get_lt hj) hj) a5
  obtain ⟨n, hn⟩ := get_ex z
  obtain ⟨t1, t2⟩ := p2 k n hn
  have hnm := List.mem_of_getElem? hn
  obtain ⟨u1, u2, u3⟩ := hs.2.2 n t2
  have tk : ∀ m, m ∈ s.1.take (k + 1) ↔ m ∈ s.1.take k ∨ m = n := fun m => by
    rw [List.take_add_one, hn, List.mem_append]
    exact or_congr Iff.rfl List.mem_singleton
  have main : r_look_131 Q (fun b0 b1 b2 v f g => P (b0, b1, b2, v, f, g)) (bI b) (nI a) (nI k) (nI n) v f' g := by
    unfold r_look_131
    rw [pk_mul, nI_add, nI_clamp (show 202 * a + k < 2 ^ 31 by omega)]
    refine ⟨pk_in (202 * a + k) 1010 (by omega), fun f6 e6 => ?_⟩
    rw [pk_mul]
    rintro _ rfl
    have r30 : f6 30 = fun c => if c = 202 * a + k then nI n else f' 30 c := by rw [e6, mU_s]
    have o6 : ∀ m, m ≠ 30 → f6 m = f' m := fun m hm => by rw [e6, mU_n hm]
    unfold r_look_154L
    refine lfp_cnt (sg n).length (fun j y => ∃ f2, (∀ m, m ≠ 30 → m ≠ 32 → f2 m = f m) ∧ f2 30 = f6 30 ∧ (∀ c, (c < 20200 * a ∨ 20200 * a + 20200 ≤ c) → f2 32 c = f 32 c) ∧ (∀ m, m ∈ s.1.take k → ∀ i, i < (sg m).length → f2 32 (20200 * a + (100 * m + i)) = bI (s.2 m i)) ∧ (∀ i, i < j → f2 32 (20200 * a + (100 * n + i)) = bI (s.2 n i)) ∧ y = (bI b, nI a, nI k, nI n, nI (100 * n + j), v, f2, g)) ?_ ⟨f6, fun m h1 h2 => (o6 m h1).trans (a1 m h1 h2), rfl, fun c hc => by rw [o6 32 (by decide)]; exact a3 c hc, fun m hm i hi => by rw [o6 32 (by decide)]; exact a5 m hm i hi, fun i hi => absurd hi (Nat.not_lt_zero i), rfl⟩
    rintro P2 j _ hj ⟨f2, b1, b2, b3, b4, b5, rfl⟩ ih2
    show r_look_154 Q _ _ (bI b) (nI a) (nI k) (nI n) (nI (100 * n + j)) v f2 g
    unfold r_look_154
    rw [nI_clamp (show n < 2 ^ 31 by omega), b1 20 (by decide) (by decide), u1, pk_mul, nI_add (100 * n) (sg n).length, nI_clamp (show 100 * n + j < 2 ^ 31 by omega), pk_mul, nI_add (20200 * a) (100 * n + j)]
    refine ⟨pk_in n 202 (by omega), pk_le (100 * n + (sg n).length) (100 * n + j) (fun z2 => ?_) (fun z2 => ?_)⟩
    · obtain rfl : j = (sg n).length := by omega
      rintro _ rfl
      rw [nI_add]
      refine ih _ z ⟨f2, b1, fun c hc => ?_, b3, fun i m hi hm => ?_, fun m hm i hi => ?_, rfl⟩
      · rw [b2, r30]
        show (if c = 202 * a + k then nI n else f' 30 c) = _
        rw [if_neg (by omega)]; exact a2 c hc
      · rw [b2, r30]
        show (if 202 * a + i = 202 * a + k then nI n else f' 30 (202 * a + i)) = nI m
        by_cases c : i = k
        · subst c
          rw [hn] at hm
          rw [if_pos rfl, Option.some.inj hm]
        · rw [if_neg (by omega)]; exact a4 i m (by omega) hm
      · rcases (tk m).mp hm with q | q
        · exact b4 m q i hi
        · rw [q] at hi ⊢; exact b5 i hi
    have jl : j < (sg n).length := by omega
    have inc : vp_in (nI (100 * n + j)) 20200 := pk_in (100 * n + j) 20200 (by omega)
    have fin : r_look_205 Q (fun b0 b1 b2 v f g => P (b0, b1, b2, v, f, g)) (fun b0 b1 b2 b3 b4 v f g => P2 (b0, b1, b2, b3, b4, v, f, g)) (bI b) (nI a) (nI k) (nI n) (nI (100 * n + j)) (bI (s.2 n j)) (nI (20200 * a + (100 * n + j))) v f2 g := by
      unfold r_look_205
      refine ⟨pk_in (20200 * a + (100 * n + j)) 101000 (by omega), ⟨_, rfl⟩, fun f9 e9 => ?_⟩
      rw [nI_clamp (show 20200 * a + (100 * n + j) < 2 ^ 31 by omega)] at e9
      rintro _ rfl
      rw [nI_add]
      have r32 : f9 32 = fun c => if c = 20200 * a + (100 * n + j) then bI (s.2 n j) else f2 32 c := by rw [e9, mU_s]
      have o9 : ∀ m, m ≠ 32 → f9 m = f2 m := fun m hm => by rw [e9, mU_n hm]
      refine ih2 _ jl ⟨f9, fun m h1 h2 => (o9 m h2).trans (b1 m h1 h2), (o9 30 (by decide)).trans b2, fun c hc => ?_, fun m hm i hi => ?_, fun i hi => ?_, rfl⟩
      · rw [r32]
        show (if c = 20200 * a + (100 * n + j) then _ else f2 32 c) = _
        rw [if_neg (by omega)]; exact b3 c hc
      · rw [r32]
        show (if 20200 * a + (100 * m + i) = 20200 * a + (100 * n + j) then bI (s.2 n j) else f2 32 (20200 * a + (100 * m + i))) = _
        by_cases c : 20200 * a + (100 * m + i) = 20200 * a + (100 * n + j)
        · have l2 : (sg m).length ≤ 100 := by
            obtain ⟨q, hq⟩ := List.getElem?_of_mem (List.mem_of_mem_take hm)
            exact (hs.2.2 m (p2 q m hq).2).2.1
          obtain ⟨rfl, rfl⟩ : m = n ∧ i = j := by omega
          rw [if_pos rfl]
        · rw [if_neg c]; exact b4 m hm i hi
      · rw [r32]
        show (if 20200 * a + (100 * n + i) = 20200 * a + (100 * n + j) then bI (s.2 n j) else f2 32 (20200 * a + (100 * n + i))) = _
        by_cases c : i = j
        · subst c; rw [if_pos rfl]
        · rw [if_neg (by omega)]; exact b5 i (by omega)
    have pj := p3 n hnm j jl
    cases b with
    | false =>
      obtain ⟨-, rfl⟩ := hb.2 rfl
      rw [show f2 26 (100 * n + j) = bI (s.2 n j) by rw [b1 26 (by decide) (by decide)]; exact pj]
      exact ⟨fun _ => ⟨inc, fin⟩, fun c => absurd rfl c⟩
    | true =>
      obtain ⟨-, rfl⟩ := hb.1 rfl
      rw [show f2 21 (100 * n + j) = bI (s.2 n j) by rw [b1 21 (by decide) (by decide)]; exact pj]
      exact ⟨fun c => absurd c (by decide), fun _ => ⟨inc, fin⟩⟩
  rw [nI_clamp (show k < 2 ^ 31 by omega)]
  cases b with
  | false =>
    obtain ⟨rfl, -⟩ := hb.2 rfl
    rw [show f' 25 k = nI n by rw [a1 25 (by decide) (by decide)]; exact t1]
    exact ⟨fun _ => ⟨pk_in k 202 (by omega), main⟩, fun c => absurd rfl c⟩
  | true =>
    obtain ⟨rfl, -⟩ := hb.1 rfl
    rw [show f' 24 k = nI n by rw [a1 24 (by decide) (by decide)]; exact t1]
    exact ⟨fun c => absurd c (by decide), fun _ => ⟨pk_in k 202 (by omega), main⟩⟩
set_option maxRecDepth 100000 in
theorem p_look {Q : QI} {b : Bool} (h98 : v 98 = bI off) (hs : rSg l v f g made dn sg hd) (hi : rIx v f made sg ids lv) (hc : rOv v f 35 37 25 26 made sg cm) (hk : rLk f made sg sl) (h48 : v 48 = nI op) (hop : op < 2 ^ 20) (hX : off = true ∨ (∀ k, k < 5 → sl k ≠ none) → Q (nI 0) (upd v 99 (nI 1)) f g) (h : ∀ a v' f', off = false → a < 5 → sl a = none → rF [99, 48] [29, 30, 31, 32] [] v f g v' f' g → v' 99 = nI 0 → v' 48 = nI (op + 1) → rLk f' made sg (upR sl a (some (op, if b = true then (ids, lv) else cmV cm))) → Q (nI op) v' f' g) : r_look Q (bI b) v f g := by
  have m201 := hs.1.2
  unfold r_look
  rintro _ rfl
  unfold r_look_4L
  refine lfp_cnt 5 (fun k y => ∃ t : Option Nat, (t = none → ∀ i, 5 - k ≤ i → i < 5 → sl i ≠ none) ∧ (∀ a, t = some a → a < 5 ∧ sl a = none) ∧ y = (bI b, cIn t, nM (5 - k), v, f, g)) ?_ ⟨none, fun _ i h1 h2 => by omega, fun a ha => absurd ha (by simp), rfl⟩
  rintro P k _ hk5 ⟨t, t1, t2, rfl⟩ ih
  show r_look_4 Q _ (bI b) (cIn t) (nM (5 - k)) v f g
  unfold r_look_4
  by_cases z : k = 5
  · subst z
    refine ⟨fun _ => ?_, fun c => absurd (show nM (5 - 5) < 0 by decide) c⟩
    have no : (off = true ∨ (∀ k, k < 5 → sl k ≠ none)) → r_look_47 Q (bI b) (cIn t) v f g := fun q => by
      unfold r_look_47 r_look_48
      exact goF (b1 := false) ⟨fun c => absurd rfl c, fun _ => hX q⟩
    rw [h98]
    refine w_bn off (fun e => no (Or.inl e)) (fun e => ?_)
    cases t with
    | none => exact ⟨fun _ => no (Or.inr (fun k hk => t1 rfl k (by omega) hk)), fun c => absurd rfl c⟩
    | some a =>
      obtain ⟨ha, hsa⟩ := t2 a rfl
      refine ⟨fun c => absurd c (nI_neg (by omega)), fun _ => ?_⟩
      show r_look_48 Q (bI b) (nI a) (nI 1) v f g
      have ac : (nI a).toNatClampNeg = a := nI_clamp (by omega)
      unfold r_look_48
      refine goF (b1 := true) ⟨fun _ => ⟨pk_in a 5 ha, fun f3 e3 => ?_⟩, fun c => absurd c (by decide)⟩
      have v348 : (upd v 99 (if true = true then nI 0 else nI 1)) 48 = nI op := (upd_n (by decide)).trans h48
      rw [ac, v348] at e3
      obtain ⟨s, hsv⟩ : ∃ s, s = (if b = true then (ids, lv) else cmV cm) := ⟨_, rfl⟩
      rw [← hsv] at h
      have o3 : ∀ m, m ≠ 29 → f3 m = f m := fun m hm => by rw [e3, mU_n hm]
      have r29 : f3 29 = fun c => if c = a then nI op else f 29 c := by rw [e3, mU_s]
      have main : ∀ row lr : Nat, ((b = true → row = 24 ∧ lr = 21) ∧ (b = false → row = 25 ∧ lr = 26)) → rVw f row lr made sg s → r_look_99 Q (bI b) (nI a) (nI s.1.length) (nI a) (upd v 99 (nI 0)) f3 g := by
        intro row lr hrl hV
        have hrow : row ≠ 31 ∧ lr ≠ 31 ∧ row ≠ 29 ∧ lr ≠ 29 := by
          cases b with
          | false => obtain ⟨rfl, rfl⟩ := hrl.2 rfl; decide
          | true => obtain ⟨rfl, rfl⟩ := hrl.1 rfl; decide
        unfold r_look_99
        refine ⟨pk_in a 5 ha, fun f4 e4 => ?_⟩
        rw [ac] at e4
        have o4 : ∀ m, m ≠ 29 → m ≠ 31 → f4 m = f m := fun m h1 h2 => by rw [e4, mU_n h2]; exact o3 m h1
        have s29 : f4 29 = fun c => if c = a then nI op else f 29 c := by rw [e4, mU_n (by decide)]; exact r29
        have s31 : f4 31 = fun c => if c = a then nI s.1.length else f 31 c := by rw [e4, mU_s, o3 31 (by decide)]
        have F4 : rF [] [29, 31] [] (upd v 99 (nI 0)) f g (upd v 99 (nI 0)) f4 g := ⟨fun _ _ => rfl, fun n hn => o4 n (fun e => hn (by rw [e]; decide)) (fun e => hn (by rw [e]; decide)), fun _ _ => rfl⟩
        have hV4 : rVw f4 row lr made sg s := by
          unfold rVw at hV ⊢
          rw [o4 row hrow.2.2.1 hrow.1, o4 lr hrow.2.2.2 hrow.2.1]; exact hV
        refine p_look102 (v := upd v 99 (nI 0)) hrl (rSg_fr F4 (by decide) (by decide) (by decide) (rSg_99 hs)) ha ((upd_n (by decide)).trans h48) hop (by rw [s31]; exact if_pos rfl) hV4 (fun v' f' hF w48 q30 q32 q30' q32' => ?_)
        refine h a v' f' e ha hsa ⟨fun i hi' => ?_, fun n hn => ?_, fun _ _ => rfl⟩ ((hF.1 99 (by decide)).trans upd_at) w48 (fun q hq => ?_)
        · rw [hF.1 i (fun q => hi' (by rw [List.mem_singleton.mp q]; decide))]
          exact upd_n (fun e => hi' (by rw [e]; decide))
        · rw [hF.2.1 n (fun q => hn (by revert q; simp only [List.mem_cons, List.not_mem_nil, or_false]; omega))]
          exact o4 n (fun e => hn (by rw [e]; decide)) (fun e => hn (by rw [e]; decide))
        · rw [hF.2.1 29 (by decide), hF.2.1 31 (by decide), s29, s31]
          by_cases c : q = a
          · subst c
            refine ⟨fun e => ?_, fun t ht => ?_⟩
            · rw [upR_s] at e; exact absurd e (by simp)
            · rw [upR_s] at ht
              obtain rfl := Option.some.inj ht
              exact ⟨⟨if_pos rfl, by show op < 2 ^ 30; omega⟩, if_pos rfl, hV.1, fun j n hj => ⟨q30' j n hj, (hV.2.1 j n hj).2⟩, q32'⟩
          · rw [upR_n c]
            obtain ⟨b1, b2⟩ := hk q hq
            refine ⟨fun e => (if_neg c).trans (b1 e), fun t ht => ?_⟩
            obtain ⟨⟨d1, d2⟩, d3, d4, d5, d6⟩ := b2 t ht
            refine ⟨⟨(if_neg c).trans d1, d2⟩, (if_neg c).trans d3, d4, fun j n hj => ?_, fun n hn j hj => ?_⟩
            · have := get_lt hj
              rw [q30 _ (by omega), o4 30 (by decide) (by decide)]; exact d5 j n hj
            · obtain ⟨i, hi'⟩ := List.getElem?_of_mem hn
              have nl := (d5 i n hi').2
              have := (hs.2.2 n nl).2.1
              rw [q32 _ (by omega), o4 32 (by decide) (by decide)]; exact d6 n hn j hj
      cases b with
      | true =>
        refine ⟨fun c => absurd c (by decide), fun _ => ?_⟩
        have e34 : (upd v 99 (if true = true then nI 0 else nI 1)) 34 = nI s.1.length := by rw [hsv]; exact (upd_n (by decide)).trans hi.1
        rw [e34]
        refine main 24 21 ⟨fun _ => ⟨rfl, rfl⟩, fun c => absurd c (by decide)⟩ ?_
        rw [hsv]
        exact ⟨hi.2.1, hi.2.2.1, hi.2.2.2⟩
      | false =>
        refine ⟨fun _ => ?_, fun c => absurd rfl c⟩
        have e35 : (upd v 99 (if true = true then nI 0 else nI 1)) 35 = bI cm.isSome := (upd_n (by decide)).trans hc.1
        rw [e35]
        cases hcm : cm with
        | none =>
          rw [hcm] at hsv
          refine ⟨fun _ => ?_, fun c => absurd rfl c⟩
          have := main 25 26 ⟨fun c => absurd c (by decide), fun _ => ⟨rfl, rfl⟩⟩ (by
            rw [hsv]
            exact ⟨Nat.zero_le _, fun k n hkn => absurd (get_lt hkn) (Nat.not_lt_zero k), fun n hn => absurd hn List.not_mem_nil⟩)
          rw [show s.1.length = 0 by rw [hsv]; rfl] at this
          exact this
        | some m =>
          rw [hcm] at hsv
          refine ⟨fun c => absurd c (show ¬ bI true = 0 by decide), fun _ => ?_⟩
          have e37 : (upd v 99 (if true = true then nI 0 else nI 1)) 37 = nI s.1.length := by rw [hsv]; exact (upd_n (by decide)).trans (hc.2 m hcm).1
          rw [e37]
          refine main 25 26 ⟨fun c => absurd c (by decide), fun _ => ⟨rfl, rfl⟩⟩ ?_
          rw [hsv]
          exact (hc.2 m hcm).2
  · obtain ⟨m, hm⟩ : ∃ m, 5 - k = m + 1 := ⟨4 - k, by omega⟩
    rw [hm, nM_s]
    have mc : (nI m).toNatClampNeg = m := nI_clamp (by omega)
    have go : ∀ t' : Option Nat, (t' = none → ∀ i, 5 - (k + 1) ≤ i → i < 5 → sl i ≠ none) → (∀ a, t' = some a → a < 5 ∧ sl a = none) → r_look_23 Q (fun b0 b1 b2 v f g => P (b0, b1, b2, v, f, g)) (bI b) (nI m) (cIn t') v f g := by
      intro t' q1 q2
      unfold r_look_23
      rintro _ rfl
      rw [nI_m1]
      have : nM m = nM (5 - (k + 1)) := by rw [show 5 - (k + 1) = m by omega]
      rw [this]
      exact ih _ (by omega) ⟨t', q1, q2, rfl⟩
    refine ⟨fun c => absurd c (nI_pos (by omega)), fun _ => ⟨pk_in m 5 (by omega), ?_⟩⟩
    rw [mc]
    obtain ⟨b1, b2⟩ := hk m (by omega)
    refine ⟨fun c => go t (fun e i h1 h2 => ?_) t2, fun c => go (some m) (fun e => absurd e (by simp)) (fun a ha => ?_)⟩
    · by_cases q : i = m
      · rw [q]; exact fun e2 => c (b1 e2)
      · exact t1 e i (by omega) h2
    · obtain rfl := Option.some.inj ha
      refine ⟨by omega, ?_⟩
      cases hs5 : sl m with
      | none => rfl
      | some s =>
        have d := (b2 s hs5).1
        rw [c] at d
        exact absurd d.1.symm (nI_neg (by omega))
end LO
