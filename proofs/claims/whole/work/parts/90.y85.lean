/-! the reference: a merge ends -/
theorem cutM_get {ids : List Nat} {p made a n : Nat} (hp : p ≤ ids.length) (h : (ids.take p ++ made :: ids.drop (p + 3))[a]? = some n) : (a < p ∧ ids[a]? = some n) ∨ (a = p ∧ n = made) ∨ (p < a ∧ ids[a + 2]? = some n) := by
  have lt : (ids.take p).length = p := by rw [List.length_take]; omega
  by_cases c : a < p
  · rw [List.getElem?_append_left (by omega), List.getElem?_take, if_pos c] at h
    exact Or.inl ⟨c, h⟩
  · rw [List.getElem?_append_right (by omega), lt] at h
    by_cases c2 : a = p
    · subst c2
      rw [Nat.sub_self] at h
      exact Or.inr (Or.inl ⟨rfl, (Option.some.inj h).symm⟩)
    · obtain ⟨m, hm⟩ : ∃ m, a - p = m + 1 := ⟨a - p - 1, by omega⟩
      rw [hm, List.getElem?_cons_succ, List.getElem?_drop] at h
      refine Or.inr (Or.inr ⟨by omega, ?_⟩)
      rw [show a + 2 = p + 3 + m by omega]; exact h
theorem cut3_get {ids : List Nat} {p a n : Nat} (hp : p ≤ ids.length) (h : (ids.take p ++ ids.drop (p + 3))[a]? = some n) : (a < p ∧ ids[a]? = some n) ∨ (p ≤ a ∧ ids[a + 3]? = some n) := by
  have lt : (ids.take p).length = p := by rw [List.length_take]; omega
  by_cases c : a < p
  · rw [List.getElem?_append_left (by omega), List.getElem?_take, if_pos c] at h
    exact Or.inl ⟨c, h⟩
  · rw [List.getElem?_append_right (by omega), lt, List.getElem?_drop] at h
    refine Or.inr ⟨by omega, ?_⟩
    rw [show a + 3 = p + 3 + (a - p) by omega]; exact h
def dfD : Dc := ((0, 0, 0), [], [])
theorem gD_get {L : List Dc} {k : Nat} (h : k < L.length) : L[k]? = some (L.getD k dfD) := by
  rw [List.getD_eq_getElem?_getD, List.getElem?_eq_getElem h]; rfl
/-- the documents at some places -/
def dcA (sg : Nat → List Dc) (mp : List (Nat × Nat)) : List Dc := mp.map (fun y => (sg y.1).getD y.2 dfD)
def lvM (made : Nat) (mp : List (Nat × Nat)) (lv : Nat → Nat → Bool) : Nat → Nat → Bool := fun n j => if n = made then lv (mp.getD j (0, 0)).1 (mp.getD j (0, 0)).2 else lv n j
def hdM (made : Nat) (mp : List (Nat × Nat)) (hd : Nat → Nat → Nat) : Nat → Nat → Nat := upR hd made (fun j => hd (mp.getD j (0, 0)).1 (mp.getD j (0, 0)).2)
theorem gP_get {mp : List (Nat × Nat)} {q : Nat} (h : q < mp.length) : mp[q]? = some (mp.getD q (0, 0)) := gH_get h
section EN1
variable {v v' : Nat → Int32} {f f' : Nat → Nat → Int32} {g g' : Nat → Nat → Int64} {l : LGt} {made dn : Nat} {sg : Nat → List Dc} {hd : Nat → Nat → Nat} {ids : List Nat} {lv : Nat → Nat → Bool}
theorem p_ends1 {Q : QV} {s : Vw} {p c : Nat} (hm : rMg v f sg (some (s, c))) (hs : rSg l v f g made dn sg hd) (hi : rIx v f made sg ids lv) (h200 : made ≤ 200) (hnd : ids.Nodup) (hp : p + 3 ≤ ids.length) (h3 : s.1.length = 3) (hsrc : ∀ (a n : Nat), s.1[a]? = some n → ids[p + a]? = some n) (hc : c = (mtL sg s.2 s.1).length) (h100 : c ≤ 100) (h0 : c = 0 → ∀ v' f', rF [34, 49] [24] [] v f g v' f' g → v' 49 = bI false → rSg l v' f' g made dn sg hd → rIx v' f' made sg (ids.take p ++ ids.drop (p + 3)) lv → Q v' f' g) (h1 : 0 < c → ∀ v' f', rF [34, 29, 49] [19, 20, 21, 22, 24] [] v f g v' f' g → zK f f' 21 → zK f f' 22 → v' 49 = bI false → rSg l v' f' g (made + 1) dn (upR sg made (dcA sg (mtL sg s.2 s.1))) (hdM made (mtL sg s.2 s.1) hd) → rIx v' f' (made + 1) (upR sg made (dcA sg (mtL sg s.2 s.1))) (ids.take p ++ made :: ids.drop (p + 3)) (lvM made (mtL sg s.2 s.1) lv) → (∀ j, j < c → f' 22 (100 * made + j) = bI true) → (∀ e, e < 100 * made → f' 21 e = f 21 e ∧ f' 22 e = f 22 e) → Q v' f' g) : r_ends1 Q v f g := by
  obtain ⟨⟨s1, s2⟩, ⟨s3, s4⟩, s5⟩ := id hs
  obtain ⟨i1, i2, i3, i4⟩ := id hi
  obtain ⟨m1, m2⟩ := hm
  obtain ⟨m52, m53, m33, m34⟩ := m2 s c rfl
  obtain ⟨mp, hmp⟩ : ∃ mp, mp = mtL sg s.2 s.1 := ⟨_, rfl⟩
  rw [← hmp] at hc h1 m34
  obtain ⟨n0, hn0⟩ := get_ex (l := s.1) (k := 0) (by omega)
  have hp0 : ids[p]? = some n0 := hsrc 0 n0 hn0
  have e33 := m33 0 n0 hn0
  have nx : ∀ {y : Nat × Nat} {q : Nat}, mp[q]? = some y → y.1 ∈ ids ∧ y.1 < made ∧ y.2 < (sg y.1).length := fun hq => by
    obtain ⟨a1, a2, a3⟩ := mtL_mem (by rw [← hmp]; exact List.mem_of_getElem? hq)
    obtain ⟨a, ha⟩ := List.getElem?_of_mem a1
    have := hsrc a _ ha
    exact ⟨List.mem_of_getElem? this, (i3 _ _ this).2, a2⟩
  have n0m := (i3 p n0 hp0).2
  unfold r_ends1 r_ends1_2L
  refine lfp_cnt p (fun k y => y = (nI k, v, f, g)) ?_ rfl
  rintro P k _ hk rfl ih
  show r_ends1_2 Q _ (nI k) v f g
  obtain ⟨n, hn⟩ := get_ex (l := ids) (k := k) (by omega)
  obtain ⟨t1, t2⟩ := i3 k n hn
  unfold r_ends1_2
  rw [nI_clamp (show k < 2 ^ 31 by omega), show (nI 0).toNatClampNeg = 0 from nI_clamp (by decide), t1, e33]
  refine ⟨pk_in k 202 (by omega), pk_in 0 3 (by decide), And.symm (w_ne n n0 (fun e => ?_) (fun e => ?_))⟩
  · rintro _ rfl
    rw [nI_add]
    have : k ≠ p := fun w => e (by rw [w, hp0] at hn; exact (Option.some.inj hn).symm)
    exact ih _ (by omega) rfl
  obtain rfl : k = p := (List.getElem?_inj (i := k) (j := p) (by omega) hnd).mp (by rw [hn, hp0, e])
  unfold r_ends1_25L
  refine lfp_cnt c (fun q y => ∃ f', (∀ n, n ∉ [19, 21, 22] → f' n = f n) ∧ (∀ a, a < q → f' 19 (100 * made + a) = nI (hd (mp.getD a (0, 0)).1 (mp.getD a (0, 0)).2) ∧ f' 21 (100 * made + a) = bI (lv (mp.getD a (0, 0)).1 (mp.getD a (0, 0)).2) ∧ f' 22 (100 * made + a) = bI true) ∧ (∀ e, e < 100 * made → f' 19 e = f 19 e ∧ f' 21 e = f 21 e ∧ f' 22 e = f 22 e) ∧ (q = 0 → f' = f) ∧ (zK f f' 21 ∧ zK f f' 22) ∧ y = (nI k, nI q, v, f', g)) ?_ ⟨f, fun _ _ => rfl, fun a ha => absurd ha (Nat.not_lt_zero a), fun _ _ => ⟨rfl, rfl, rfl⟩, fun _ => rfl, ⟨zK_rf, zK_rf⟩, rfl⟩
  rintro P2 q _ hq ⟨f2, a1, a2, a3, a4, a5, rfl⟩ ih2
  show r_ends1_25 Q _ (nI k) (nI q) v f2 g
  unfold r_ends1_25
  rw [m53]
  refine pk_le c q (fun z => ?_) (fun z => ?_)
  · obtain rfl : q = c := by omega
    -- the index is closed up
    have shift : ∀ by' : Nat, (by' = 2 ∧ 0 < q ∨ by' = 3 ∧ q = 0) → r_ends1_102 Q (nI k) (nI by') v f2 g := by
      intro b hb
      have b23 : 2 ≤ b ∧ b ≤ 3 := by omega
      unfold r_ends1_102
      rintro _ rfl
      rw [nI_add]
      unfold r_ends1_107L
      have f24 : f2 24 = f 24 := a1 24 (by decide)
      refine lfp_cnt (ids.length - (k + 3)) (fun i y => ∃ f3, (∀ n, n ≠ 24 → f3 n = f2 n) ∧ (∀ a n, a < k → ids[a]? = some n → f3 24 a = nI n) ∧ (∀ a n, k + 3 ≤ a → a < k + 3 + i → ids[a]? = some n → f3 24 (a - b) = nI n) ∧ (∀ a n, k + 3 + i ≤ a → ids[a]? = some n → f3 24 a = nI n) ∧ y = (nI k, nI b, nI (k + 3 + i), v, f3, g)) ?_ ⟨f2, fun _ _ => rfl, fun a n _ ha => by rw [f24]; exact (i3 a n ha).1, fun a n h1 h2 => by omega, fun a n _ ha => by rw [f24]; exact (i3 a n ha).1, rfl⟩
      rintro P3 i _ hi3 ⟨f3, c1, c2, c3, c4, rfl⟩ ih3
      show r_ends1_107 Q _ (nI k) (nI b) (nI (k + 3 + i)) v f3 g
      unfold r_ends1_107
      rw [i1, pk_sub (show b ≤ ids.length by omega), pk_sub (show b ≤ k + 3 + i by omega)]
      refine pk_le ids.length (k + 3 + i) (fun z3 => ?_) (fun z3 => ?_)
      · have ei : ids.length = k + 3 + i := by omega
        rintro v2 e2
        have v2o : ∀ j, j ≠ 34 → v2 j = v j := fun j hj => by rw [e2, upd_n hj]
        have v234 : v2 34 = nI (ids.length - b) := by rw [e2]; exact upd_at
        rw [v2o 53 (by decide), m53, v2o 29 (by decide), s1, nI_clamp (show k < 2 ^ 31 by omega), nI_clamp (show made < 2 ^ 31 by omega)]
        refine pk_le q 0 (fun z4 => ?_) (fun z4 => ⟨pk_in k 202 (by omega), fun f4 e4 => ⟨pk_in made 202 (by omega), fun f5 e5 v6 e6 => ?_⟩⟩)
        · obtain rfl : q = 0 := by omega
          have b3 : b = 3 := by omega
          subst b3
          unfold r_ends1_185
          rintro v3 e3
          have ef := a4 rfl
          subst ef
          have hF : rF [34, 49] [24] [] v f2 g v3 f3 g := ⟨fun j hj => by rw [e3, upd_n (fun e => hj (by rw [e]; decide))]; exact v2o j (fun e => hj (by rw [e]; decide)), fun n hn => c1 n (fun e => hn (by rw [e]; decide)), fun _ _ => rfl⟩
          refine h0 rfl v3 f3 hF (by rw [e3]; exact upd_at) (rSg_fr hF (by decide) (by decide) (by decide) hs) ⟨?_, ?_, fun a m ha => ?_, fun m hm' j hj => ?_⟩
          · rw [e3, upd_n (by decide), v234, List.length_append, List.length_take, List.length_drop]
            congr 1
            omega
          · rw [List.length_append, List.length_take, List.length_drop]; omega
          · rcases cut3_get (by omega) ha with ⟨w, ha⟩ | ⟨w, ha⟩
            · exact ⟨c2 a m w ha, (i3 a m ha).2⟩
            · have := c3 (a + 3) m (by omega) (by have := get_lt ha; omega) ha
              rw [Nat.add_sub_cancel] at this
              exact ⟨this, (i3 _ m ha).2⟩
          · rw [c1 21 (by decide)]
            refine i4 m ?_ j hj
            rcases List.mem_append.mp hm' with w | w
            · exact List.mem_of_mem_take w
            · exact List.mem_of_mem_drop w
        · have b2 : b = 2 := by omega
          subst b2
          rw [nI_add] at e6
          unfold r_ends1_185
          rintro v3 e3
          have v3o : ∀ j, j ≠ 34 → j ≠ 29 → j ≠ 49 → v3 j = v j := fun j h1 h2 h3 => by rw [e3, upd_n h3, e6, upd_n h2]; exact v2o j h1
          have r24 : f5 24 = fun a => if a = k then nI made else f3 24 a := by rw [e5, mU_n (by decide), e4, mU_s]
          have r20 : f5 20 = fun a => if a = made then nI q else f 20 a := by rw [e5, mU_s, e4, mU_n (by decide), c1 20 (by decide), a1 20 (by decide)]
          have fo : ∀ n, n ≠ 20 → n ≠ 24 → f5 n = f2 n := fun n h1 h2 => by rw [e5, mU_n h1, e4, mU_n h2]; exact c1 n h2
          have lenL : (dcA sg mp).length = q := by unfold dcA; rw [List.length_map]; exact hc.symm
          have seg : ∀ n, n < made → upR sg made (dcA sg mp) n = sg n := fun n hn => upR_n (by omega)
          have d14 : f5 14 = f 14 := (fo 14 (by decide) (by decide)).trans (a1 14 (by decide))
          have d15 : f5 15 = f 15 := (fo 15 (by decide) (by decide)).trans (a1 15 (by decide))
          have d16 : f5 16 = f 16 := (fo 16 (by decide) (by decide)).trans (a1 16 (by decide))
          have d18 : f5 18 = f 18 := (fo 18 (by decide) (by decide)).trans (a1 18 (by decide))
          refine h1 z4 v3 f5 ⟨fun j hj => v3o j (fun e => hj (by rw [e]; decide)) (fun e => hj (by rw [e]; decide)) (fun e => hj (by rw [e]; decide)), fun n hn => ?_, fun _ _ => rfl⟩ (zK_tr a5.1 (zK_eq (fo 21 (by decide) (by decide)))) (zK_tr a5.2 (zK_eq (fo 22 (by decide) (by decide)))) (by rw [e3]; exact upd_at) ⟨⟨?_, by omega⟩, ⟨(v3o 26 (by decide) (by decide) (by decide)).trans s3, by omega⟩, fun n hn => ?_⟩ ⟨?_, ?_, fun a m ha => ?_, fun m hm' j hj => ?_⟩ (fun j hj => by rw [fo 22 (by decide) (by decide)]; exact (a2 j hj).2.2) (fun e he => by rw [fo 21 (by decide) (by decide), fo 22 (by decide) (by decide)]; exact (a3 e he).2)
          · rw [fo n (fun e => hn (by rw [e]; decide)) (fun e => hn (by rw [e]; decide))]
            refine a1 n (fun w => hn ?_)
            revert w; simp only [List.mem_cons, List.not_mem_nil, or_false]; omega
          · rw [e3, upd_n (by decide), e6]; exact upd_at
          · rw [d14, d15, d16, d18, fo 19 (by decide) (by decide)]
            by_cases cn' : n = made
            · subst cn'
              rw [upR_s, lenL]
              refine ⟨by rw [r20]; exact if_pos rfl, h100, fun j d hj => ?_⟩
              have jl := get_lt hj
              rw [lenL] at jl
              have hy := gP_get (mp := mp) (q := j) (by omega)
              obtain ⟨y1, y2, y3⟩ := nx hy
              unfold dcA at hj
              rw [List.getElem?_map, hy] at hj
              have hdd : (sg (mp.getD j (0, 0)).1)[(mp.getD j (0, 0)).2]? = some d := by
                rw [← Option.some.inj hj]; exact gD_get y3
              obtain ⟨x1, x2, x3⟩ := (s5 _ y2).2.2 _ d hdd
              rw [show hdM n mp hd n j = hd (mp.getD j (0, 0)).1 (mp.getD j (0, 0)).2 by unfold hdM; rw [upR_s]]
              exact ⟨(a2 j jl).1, x2, x3⟩
            · have nl : n < made := by omega
              obtain ⟨t1, t2, t3⟩ := s5 n nl
              rw [seg n nl]
              refine ⟨by rw [r20]; exact (if_neg cn').trans t1, t2, fun j d hj => ?_⟩
              obtain ⟨u1, u2, u3⟩ := t3 j d hj
              have jl := get_lt hj
              rw [show hdM made mp hd n j = hd n j by unfold hdM; rw [upR_n cn']]
              exact ⟨by rw [(a3 _ (by omega)).1]; exact u1, u2, u3⟩
          · rw [e3, upd_n (by decide), e6, upd_n (by decide), v234, List.length_append, List.length_take, List.length_cons, List.length_drop]
            congr 1
            omega
          · rw [List.length_append, List.length_take, List.length_cons, List.length_drop]; omega
          · rw [r24]
            show (if a = k then nI made else f3 24 a) = nI m ∧ m < made + 1
            rcases cutM_get (by omega) ha with ⟨w, ha⟩ | ⟨rfl, rfl⟩ | ⟨w, ha⟩
            · rw [if_neg (by omega)]
              exact ⟨c2 a m w ha, Nat.lt_succ_of_lt (i3 a m ha).2⟩
            · rw [if_pos rfl]; exact ⟨rfl, Nat.lt_succ_self _⟩
            · rw [if_neg (by omega)]
              have := c3 (a + 2) m (by omega) (by have := get_lt ha; omega) ha
              rw [Nat.add_sub_cancel] at this
              exact ⟨this, Nat.lt_succ_of_lt (i3 _ m ha).2⟩
          · rw [fo 21 (by decide) (by decide)]
            by_cases cn' : m = made
            · subst cn'
              rw [upR_s, lenL] at hj
              rw [(a2 j hj).2.1]
              unfold lvM
              rw [if_pos rfl]
            · have hm2 : m ∈ ids := by
                rcases List.mem_append.mp hm' with w | w
                · exact List.mem_of_mem_take w
                · rcases List.mem_cons.mp w with w | w
                  · exact absurd w cn'
                  · exact List.mem_of_mem_drop w
              obtain ⟨kk, hkk⟩ := List.getElem?_of_mem hm2
              have nl := (i3 kk m hkk).2
              rw [seg m nl] at hj
              have := (s5 m nl).2.1
              rw [(a3 _ (by omega)).2.1, i4 m hm2 j hj]
              unfold lvM
              rw [if_neg cn']
      · obtain ⟨n', hn'⟩ := get_ex z3
        rw [nI_clamp (show k + 3 + i < 2 ^ 31 by omega), nI_clamp (show k + 3 + i - b < 2 ^ 31 by omega), c4 (k + 3 + i) n' (Nat.le_refl _) hn', nI_add]
        refine ⟨pk_in (k + 3 + i) 202 (by omega), pk_in (k + 3 + i - b) 202 (by omega), fun f7 e7 => ?_⟩
        rintro _ rfl
        have r24 : f7 24 = fun a => if a = k + 3 + i - b then nI n' else f3 24 a := by rw [e7, mU_s]
        refine ih3 _ (by omega) ⟨f7, fun m hm' => by rw [e7, mU_n hm']; exact c1 m hm', fun a m ha hm' => ?_, fun a m ha1 ha2 hm' => ?_, fun a m ha hm' => ?_, rfl⟩
        · rw [r24]
          show (if a = k + 3 + i - b then nI n' else f3 24 a) = nI m
          rw [if_neg (by omega)]; exact c2 a m ha hm'
        · rw [r24]
          show (if a - b = k + 3 + i - b then nI n' else f3 24 (a - b)) = nI m
          by_cases w : a = k + 3 + i
          · subst w
            rw [hn'] at hm'
            rw [if_pos rfl, Option.some.inj hm']
          · rw [if_neg (by omega)]; exact c3 a m ha1 (by omega) hm'
        · rw [r24]
          show (if a = k + 3 + i - b then nI n' else f3 24 a) = nI m
          rw [if_neg (by omega)]; exact c4 a m (by omega) hm'
    exact w_nz q (fun z2 => shift 2 (Or.inl ⟨rfl, z2⟩)) (fun z2 => shift 3 (Or.inr ⟨rfl, z2⟩))
  · rw [s1, pk_mul, nI_add, nI_clamp (show q < 2 ^ 31 by omega)]
    rintro _ rfl
    have hy := gP_get (mp := mp) (q := q) (by omega)
    obtain ⟨y1, y2, y3⟩ := nx hy
    obtain ⟨y, hyy⟩ : ∃ y, y = mp.getD q (0, 0) := ⟨_, rfl⟩
    rw [← hyy] at hy y1 y2 y3
    have e34 := m34 q y hy
    have l100 := (s5 y.1 y2).2.1
    have cell : 100 * y.1 + y.2 < 100 * made := by omega
    obtain ⟨d, hd'⟩ := get_ex y3
    obtain ⟨x1, x2, x3⟩ := (s5 y.1 y2).2.2 y.2 d hd'
    have f34 : f2 34 = f 34 := a1 34 (by decide)
    have iq : vp_in (nI q) 100 := pk_in q 100 (by omega)
    have ic : vp_in (nI (100 * y.1 + y.2)) 20200 := pk_in (100 * y.1 + y.2) 20200 (by omega)
    have im : vp_in (nI (100 * made + q)) 20200 := pk_in (100 * made + q) 20200 (by omega)
    have clc : (nI (100 * y.1 + y.2)).toNatClampNeg = 100 * y.1 + y.2 := nI_clamp (by omega)
    have clm : (nI (100 * made + q)).toNatClampNeg = 100 * made + q := nI_clamp (by omega)
    rw [f34, e34, clc, clm, (a3 _ cell).1, x1]
    refine ⟨iq, ic, im, fun f10 e10 => ?_⟩
    have g34 : f10 34 = f 34 := by rw [e10, mU_n (by decide), f34]
    have g21 : f10 21 = f2 21 := by rw [e10, mU_n (by decide)]
    rw [g34, e34, clc, g21, (a3 _ cell).2.1, i4 y.1 y1 y.2 y3]
    refine ⟨iq, ic, im, ⟨_, rfl⟩, fun f11 e11 => ⟨im, fun f12 e12 => ?_⟩⟩
    rintro _ rfl
    rw [nI_add]
    have r19 : f12 19 = fun a => if a = 100 * made + q then nI (hd y.1 y.2) else f2 19 a := by rw [e12, mU_n (by decide), e11, mU_n (by decide), e10, mU_s]
    have r21 : f12 21 = fun a => if a = 100 * made + q then bI (lv y.1 y.2) else f2 21 a := by rw [e12, mU_n (by decide), e11, mU_s, g21]
    have r22 : f12 22 = fun a => if a = 100 * made + q then bI true else f2 22 a := by rw [e12, mU_s, e11, mU_n (by decide), e10, mU_n (by decide)]
    refine ih2 _ z ⟨f12, fun m hm' => ?_, fun a ha => ?_, fun e he => ?_, fun w => absurd w (by omega), ⟨zK_tr a5.1 (zK_up r21), zK_tr a5.2 (zK_up r22)⟩, rfl⟩
    · have ne : ∀ j, j ∈ [19, 21, 22] → m ≠ j := fun j hj w => hm' (by rw [w]; exact hj)
      rw [e12, mU_n (ne 22 (by decide)), e11, mU_n (ne 21 (by decide)), e10, mU_n (ne 19 (by decide))]; exact a1 m hm'
    · rw [r19, r21, r22]
      show (if 100 * made + a = 100 * made + q then nI (hd y.1 y.2) else f2 19 _) = _ ∧ (if 100 * made + a = 100 * made + q then bI (lv y.1 y.2) else f2 21 _) = _ ∧ (if 100 * made + a = 100 * made + q then bI true else f2 22 _) = _
      by_cases w : a = q
      · subst w; rw [if_pos rfl, if_pos rfl, if_pos rfl, hyy]; exact ⟨rfl, rfl, rfl⟩
      · rw [if_neg (by omega), if_neg (by omega), if_neg (by omega)]; exact a2 a (by omega)
    · rw [r19, r21, r22]
      show (if e = 100 * made + q then _ else f2 19 e) = _ ∧ (if e = 100 * made + q then _ else f2 21 e) = _ ∧ (if e = 100 * made + q then _ else f2 22 e) = _
      rw [if_neg (by omega), if_neg (by omega), if_neg (by omega)]; exact a3 e he
end EN1
