/-! the reference: the end of prepare -/
section PE
variable {v v' : Nat → Int32} {f f' : Nat → Nat → Int32} {g g' : Nat → Nat → Int64} {made : Nat} {sg : Nat → List Dc} {ids : List Nat} {lv : Nat → Nat → Bool}
theorem p_prep198 {Q : QI} (h42 : v 42 = nI ids.length) (hi : rIx v f made sg ids lv) (hz : zRw f 21 20200) (hsz : ∀ n, n < made → n < 202 ∧ (sg n).length ≤ 100) (h : ∀ v' f', rF [40] [27, 28] [] v f g v' f' g → rOv v' f' 40 42 27 28 made sg (some (ids, lv)) → zRw f' 28 20200 → Q (nI ids.length) v' f' g) : r_prepare_198L Q (nI 0) v f g := by
  obtain ⟨i1, i2, i3, i4⟩ := hi
  unfold r_prepare_198L
  refine lfp_cnt ids.length (fun k y => ∃ f2, (∀ n, n ≠ 27 → f2 n = f n) ∧ (∀ a n, a < k → ids[a]? = some n → f2 27 a = nI n) ∧ y = (nI k, v, f2, g)) ?_ ⟨f, fun _ _ => rfl, fun a n ha => absurd ha (Nat.not_lt_zero a), rfl⟩
  rintro P k _ hk ⟨f2, a1, a2, rfl⟩ ih
  show r_prepare_198 Q _ (nI k) v f2 g
  unfold r_prepare_198
  rw [i1, nI_clamp (show k < 2 ^ 31 by omega)]
  refine pk_le ids.length k (fun z => ?_) (fun z => ⟨pk_in k 202 (by omega), pk_in k 202 (by omega), fun f9 e9 => ?_⟩)
  · obtain rfl : k = ids.length := by omega
    unfold r_prepare_226L
    refine lfp_cnt 20200 (fun i y => ∃ f3, (∀ n, n ≠ 28 → f3 n = f2 n) ∧ (∀ a, a < i → f3 28 a = f 21 a) ∧ y = (nI i, v, f3, g)) ?_ ⟨f2, fun _ _ => rfl, fun a ha => absurd ha (Nat.not_lt_zero a), rfl⟩
    rintro P2 i _ hi' ⟨f3, b1, b2, rfl⟩ ih2
    show r_prepare_226 Q _ (nI i) v f3 g
    have f21 : f3 21 = f 21 := (b1 21 (by decide)).trans (a1 21 (by decide))
    unfold r_prepare_226
    rw [nI_clamp (show i < 2 ^ 31 by omega), f21]
    refine pk_le 20200 i (fun z2 => ?_) (fun z2 => ⟨pk_in i 20200 z2, pk_in i 20200 z2, hz i z2, fun f7 e7 => ?_⟩)
    · obtain rfl : i = 20200 := by omega
      rintro v5 e5
      have v5o : ∀ j, j ≠ 40 → v5 j = v j := fun j hj => by rw [e5, upd_n hj]
      rw [v5o 42 (by decide), h42]
      refine h v5 f3 ⟨fun j hj => v5o j (fun e => hj (by rw [e]; decide)), fun n hn => (b1 n (fun e => hn (by rw [e]; decide))).trans (a1 n (fun e => hn (by rw [e]; decide))), fun _ _ => rfl⟩ ⟨by rw [e5]; exact upd_at, fun s' hs' => ?_⟩ (fun a ha => by rw [b2 a ha]; exact hz a ha)
      obtain rfl := Option.some.inj hs'
      refine ⟨(v5o 42 (by decide)).trans h42, i2, fun a n ha => ⟨?_, (i3 a n ha).2⟩, fun n hn j hj => ?_⟩
      · rw [b1 27 (by decide)]; exact a2 a n (get_lt ha) ha
      · obtain ⟨a, ha⟩ := List.getElem?_of_mem hn
        obtain ⟨u1, u2⟩ := hsz n (i3 a n ha).2
        rw [b2 _ (by omega)]
        exact i4 n hn j hj
    · rintro _ rfl
      rw [nI_add]
      refine ih2 _ z2 ⟨f7, fun n hn => by rw [e7, mU_n hn]; exact b1 n hn, fun a ha => ?_, rfl⟩
      rw [e7, mU_s]
      show (if a = i then f 21 i else f3 28 a) = _
      by_cases c : a = i
      · rw [if_pos c, c]
      · rw [if_neg c]; exact b2 a (by omega)
  · obtain ⟨n, hn⟩ := get_ex z
    rw [a1 24 (by decide), (i3 k n hn).1] at e9
    rintro _ rfl
    rw [nI_add]
    refine ih _ z ⟨f9, fun m hm => by rw [e9, mU_n hm]; exact a1 m hm, fun a m ha hm => ?_, rfl⟩
    rw [e9, mU_s]
    show (if a = k then nI n else f2 27 a) = nI m
    by_cases c : a = k
    · subst c
      rw [hn] at hm
      rw [if_pos rfl, Option.some.inj hm]
    · rw [if_neg c]; exact a2 a m (by omega) hm
end PE
