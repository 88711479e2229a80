/-! the reference: open -/
section OP
variable {v v' : Nat → Int32} {f f' : Nat → Nat → Int32} {g g' : Nat → Nat → Int64} {l : LGt} {made dn w : Nat} {sg : Nat → List Dc} {hd : Nat → Nat → Nat} {off : Bool} {cm : Option Vw}
theorem p_open {Q : QI} (h98 : v 98 = bI off) (hp : rOv v f 35 37 25 26 made sg cm) (hs : rSg l v f g made dn sg hd) (hz : zRw f 26 20200) (hX : off = false → Q (nI 0) (upd v 99 (nI 1)) f g) (h0 : ∀ v', off = true → cm = none → rF [99, 98, 97, 34] [] [] v f g v' f g → v' 99 = nI 0 → v' 98 = bI false → v' 97 = -1 → v' 34 = nI 0 → Q (nI 0) v' f g) (h1 : ∀ s v' f', off = true → cm = some s → rF [99, 98, 97, 34] [21, 22, 24] [] v f g v' f' g → v' 99 = nI 0 → v' 98 = bI false → v' 97 = -1 → rIx v' f' made sg s.1 s.2 → (∀ n, n ∈ s.1 → ∀ j, j < (sg n).length → f' 22 (100 * n + j) = bI (s.2 n j)) → zK f f' 21 → zK f f' 22 → Q (nI s.1.length) v' f' g) : r_open Q v f g := by
  unfold r_open
  rw [h98]
  refine goF ?_
  cases off with
  | false => exact ⟨fun c => absurd rfl c, fun _ => hX rfl⟩
  | true =>
    refine ⟨fun _ => ?_, fun c => absurd c (by decide)⟩
    rintro v2 e2 v3 e3
    have v3o : ∀ j, j ≠ 99 → j ≠ 98 → j ≠ 97 → v3 j = v j := fun j a1 a2 a3 => by rw [e3, upd_n a3, e2, upd_n a2, upd_n a1]
    have v399 : v3 99 = nI 0 := by rw [e3, upd_n (by decide), e2, upd_n (by decide)]; exact upd_at
    have v398 : v3 98 = bI false := by rw [e3, upd_n (by decide), e2]; exact upd_at
    have v397 : v3 97 = -1 := by rw [e3]; exact upd_at
    have m201 := hs.1.2
    rw [v3o 35 (by decide) (by decide) (by decide), hp.1]
    refine w_b0 cm.isSome (fun e => ?_) (fun e => ?_)
    · have cN : cm = none := by
        cases cm with
        | none => rfl
        | some m => exact absurd e (by simp)
      unfold r_open_41
      rintro v4 e4
      have v4o : ∀ j, j ≠ 34 → v4 j = v3 j := fun j hj => by rw [e4, upd_n hj]
      have v434 : v4 34 = nI 0 := by rw [e4]; exact upd_at
      unfold r_open_46L
      refine fun P hP => hP _ ?_
      show r_open_46 Q _ (nI 0) v4 f g
      unfold r_open_46
      rw [v434]
      refine pk_le 0 0 (fun _ => ?_) (fun z => absurd z (by decide))
      exact h0 v4 rfl cN ⟨fun j hj => by rw [v4o j (fun e => hj (by rw [e]; decide))]; exact v3o j (fun e => hj (by rw [e]; decide)) (fun e => hj (by rw [e]; decide)) (fun e => hj (by rw [e]; decide)), fun _ _ => rfl, fun _ _ => rfl⟩ ((v4o 99 (by decide)).trans v399) ((v4o 98 (by decide)).trans v398) ((v4o 97 (by decide)).trans v397) v434
    · cases hcm : cm with
      | none => rw [hcm] at e; exact absurd e (by simp)
      | some s =>
        obtain ⟨p37, p1, p2, p3⟩ := hp.2 s hcm
        unfold r_open_41
        rw [v3o 37 (by decide) (by decide) (by decide), p37]
        rintro v4 e4
        have v4o : ∀ j, j ≠ 34 → v4 j = v3 j := fun j hj => by rw [e4, upd_n hj]
        have v434 : v4 34 = nI s.1.length := by rw [e4]; exact upd_at
        unfold r_open_46L
        refine lfp_cnt s.1.length (fun k y => ∃ f2, (∀ n, n ∉ [21, 22, 24] → f2 n = f n) ∧ (∀ a n, a < k → s.1[a]? = some n → f2 24 a = nI n) ∧ (∀ m, m ∈ s.1.take k → ∀ j, j < (sg m).length → f2 21 (100 * m + j) = bI (s.2 m j) ∧ f2 22 (100 * m + j) = bI (s.2 m j)) ∧ zK f f2 21 ∧ zK f f2 22 ∧ y = (nI k, v4, f2, g)) ?_ ⟨f, fun _ _ => rfl, fun a n ha => absurd ha (Nat.not_lt_zero a), fun m hm => absurd hm List.not_mem_nil, zK_rf, zK_rf, rfl⟩
        rintro P k _ hk ⟨f2, a1, a2, a3, a4, a5, rfl⟩ ih
        show r_open_46 Q _ (nI k) v4 f2 g
        have f25 : f2 25 = f 25 := a1 25 (by decide)
        unfold r_open_46
        rw [v434, nI_clamp (show k < 2 ^ 31 by omega), f25]
        refine pk_le s.1.length k (fun z => ?_) (fun z => ⟨pk_in k 202 (by omega), pk_in k 202 (by omega), fun f5 e5 => ⟨pk_in k 202 (by omega), ?_⟩⟩)
        · obtain rfl : k = s.1.length := by omega
          rw [List.take_length] at a3
          refine h1 s v4 f2 rfl hcm ⟨fun j hj => ?_, a1, fun _ _ => rfl⟩ ((v4o 99 (by decide)).trans v399) ((v4o 98 (by decide)).trans v398) ((v4o 97 (by decide)).trans v397) ⟨v434, p1, fun a n ha => ⟨a2 a n (get_lt ha) ha, (p2 a n ha).2⟩, fun n hn j hj => (a3 n hn j hj).1⟩ (fun n hn j hj => (a3 n hn j hj).2) a4 a5
          rw [v4o j (fun e => hj (by rw [e]; decide))]
          exact v3o j (fun e => hj (by rw [e]; decide)) (fun e => hj (by rw [e]; decide)) (fun e => hj (by rw [e]; decide))
        obtain ⟨n, hn⟩ := get_ex z
        obtain ⟨t1, t2⟩ := p2 k n hn
        obtain ⟨u1, u2, -⟩ := hs.2.2 n t2
        have hnm := List.mem_of_getElem? hn
        have tk : ∀ m, m ∈ s.1.take (k + 1) ↔ m ∈ s.1.take k ∨ m = n := fun m => by
          rw [List.take_add_one, hn, List.mem_append]
          exact or_congr Iff.rfl List.mem_singleton
        rw [t1] at e5
        have r24 : f5 24 = fun a => if a = k then nI n else f2 24 a := by rw [e5, mU_s]
        have o5 : ∀ m, m ≠ 24 → f5 m = f2 m := fun m hm => by rw [e5, mU_n hm]
        have k24 : f5 24 k = nI n := by rw [r24]; exact if_pos rfl
        rw [k24, pk_mul]
        rintro _ rfl
        unfold r_open_76L
        refine lfp_cnt (sg n).length (fun j y => ∃ f3, (∀ m, m ∉ [21, 22, 24] → f3 m = f m) ∧ f3 24 = f5 24 ∧ (∀ m, m ∈ s.1.take k → ∀ j, j < (sg m).length → f3 21 (100 * m + j) = bI (s.2 m j) ∧ f3 22 (100 * m + j) = bI (s.2 m j)) ∧ (∀ i, i < j → f3 21 (100 * n + i) = bI (s.2 n i) ∧ f3 22 (100 * n + i) = bI (s.2 n i)) ∧ zK f f3 21 ∧ zK f f3 22 ∧ y = (nI k, nI (100 * n + j), v4, f3, g)) ?_ ⟨f5, fun m hm => (o5 m (fun e => hm (by rw [e]; decide))).trans (a1 m hm), rfl, fun m hm j hj => by rw [o5 21 (by decide), o5 22 (by decide)]; exact a3 m hm j hj, fun i hi => absurd hi (Nat.not_lt_zero i), zK_tr a4 (zK_eq (o5 21 (by decide))), zK_tr a5 (zK_eq (o5 22 (by decide))), rfl⟩
        rintro P2 j _ hj ⟨f3, b1, b2, b3, b4, b5, b6, rfl⟩ ih2
        show r_open_76 Q _ _ (nI k) (nI (100 * n + j)) v4 f3 g
        have f26 : f3 26 = f 26 := b1 26 (by decide)
        unfold r_open_76
        rw [nI_clamp (show k < 2 ^ 31 by omega), b2, k24, nI_clamp (show n < 2 ^ 31 by omega), b1 20 (by decide), u1, pk_mul, nI_add, nI_clamp (show 100 * n + j < 2 ^ 31 by omega), f26]
        refine ⟨pk_in k 202 (by omega), pk_in k 202 (by omega), pk_in n 202 (by omega), pk_le (100 * n + (sg n).length) (100 * n + j) (fun z2 => ?_) (fun z2 => ?_)⟩
        · obtain rfl : j = (sg n).length := by omega
          rintro _ rfl
          rw [nI_add]
          refine ih _ z ⟨f3, b1, fun a m ha hm => ?_, fun m hm i hi => ?_, b5, b6, rfl⟩
          · rw [b2, r24]
            show (if a = k then nI n else f2 24 a) = nI m
            by_cases c : a = k
            · subst c
              rw [hn] at hm
              rw [if_pos rfl, Option.some.inj hm]
            · rw [if_neg c]; exact a2 a m (by omega) hm
          · rcases (tk m).mp hm with q | q
            · exact b3 m q i hi
            · rw [q] at hi ⊢; exact b4 i hi
        · have lt : 100 * n + j < 20200 := by omega
          have inc : vp_in (nI (100 * n + j)) 20200 := pk_in (100 * n + j) 20200 lt
          have pj := p3 n hnm j (by omega)
          refine ⟨inc, inc, hz _ lt, fun f8 e8 => ⟨inc, inc, ?_⟩⟩
          have g26 : f8 26 = f 26 := by rw [e8, mU_n (by decide)]; exact f26
          rw [g26]
          refine ⟨hz _ lt, fun f9 e9 => ?_⟩
          rintro _ rfl
          rw [nI_add]
          rw [pj] at e8 e9
          have r21 : f9 21 = fun c => if c = 100 * n + j then bI (s.2 n j) else f3 21 c := by rw [e9, mU_n (by decide), e8, mU_s]
          have r22 : f9 22 = fun c => if c = 100 * n + j then bI (s.2 n j) else f3 22 c := by rw [e9, mU_s, e8, mU_n (by decide)]
          have o9 : ∀ m, m ≠ 21 → m ≠ 22 → f9 m = f3 m := fun m h1 h2 => by rw [e9, mU_n h2, e8, mU_n h1]
          refine ih2 _ (by omega) ⟨f9, fun m hm => (o9 m (fun e => hm (by rw [e]; decide)) (fun e => hm (by rw [e]; decide))).trans (b1 m hm), (o9 24 (by decide) (by decide)).trans b2, fun m hm i hi => ?_, fun i hi => ?_, zK_tr b5 (zK_up r21), zK_tr b6 (zK_up r22), rfl⟩
          · rw [r21, r22]
            show (if 100 * m + i = 100 * n + j then bI (s.2 n j) else f3 21 _) = _ ∧ (if 100 * m + i = 100 * n + j then bI (s.2 n j) else f3 22 _) = _
            by_cases c : 100 * m + i = 100 * n + j
            · have l2 : (sg m).length ≤ 100 := by
                obtain ⟨a, ha⟩ := List.getElem?_of_mem (List.mem_of_mem_take hm)
                exact (hs.2.2 m (p2 a m ha).2).2.1
              obtain ⟨rfl, rfl⟩ : m = n ∧ i = j := by omega
              rw [if_pos rfl, if_pos rfl]; exact ⟨rfl, rfl⟩
            · rw [if_neg c, if_neg c]; exact b3 m hm i hi
          · rw [r21, r22]
            show (if 100 * n + i = 100 * n + j then bI (s.2 n j) else f3 21 _) = _ ∧ (if 100 * n + i = 100 * n + j then bI (s.2 n j) else f3 22 _) = _
            by_cases c : i = j
            · subst c; rw [if_pos rfl, if_pos rfl]; exact ⟨rfl, rfl⟩
            · rw [if_neg (by omega), if_neg (by omega)]; exact b4 i (by omega)
end OP
