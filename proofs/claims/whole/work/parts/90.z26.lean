/-! the reference: whether marks are met; the next choice; choices laid -/
section PB
variable {v v' : Nat → Int32} {f f' : Nat → Nat → Int32} {g g' : Nat → Nat → Int64}
theorem p_areMet {Q : QI} {c : Nat} {L ML : List Nat} (hL : L.length = c) (hc : c ≤ 20) (h64 : ∀ i p, L[i]? = some p → f 64 i = nI p ∧ p < 20) (h92 : v 92 = nI ML.length) (hm : ML.length ≤ 24) (h61 : ∀ i x, ML[i]? = some x → f 61 i = nI x ∧ x < 2 ^ 20) (h : Q (bI (ML.all (fun m => !(m &&& orP L == 0)))) v f g) : r_areMet Q (nI c) v f g := by
  have hp20 : ∀ p, p ∈ L → p < 20 := fun p hp => by
    obtain ⟨i, hi⟩ := List.mem_iff_getElem?.mp hp
    exact (h64 i p hi).2
  have oL := orP_lt hp20
  unfold r_areMet r_areMet_7L
  refine lfp_cnt c (fun i y => y = (nI c, nI 1, nI (orP (L.take i)), nI i, v, f, g)) ?_ rfl
  rintro P i _ hi rfl ih
  show r_areMet_7 Q _ (nI c) (nI 1) (nI (orP (L.take i))) (nI i) v f g
  unfold r_areMet_7
  refine pk_le c i (fun z => ?_) (fun z => ?_)
  · obtain rfl : i = c := by omega
    rw [← hL, List.take_length]
    unfold r_areMet_35L
    refine lfp_cnt ML.length (fun j y => y = (bI ((ML.take j).all (fun m => !(m &&& orP L == 0))), nI (orP L), nI j, v, f, g)) ?_ rfl
    rintro P2 j _ hj rfl ih2
    show r_areMet_35 Q _ (bI ((ML.take j).all (fun m => !(m &&& orP L == 0)))) (nI (orP L)) (nI j) v f g
    unfold r_areMet_35
    rw [h92]
    refine pk_le ML.length j (fun z2 => ⟨⟨_, rfl⟩, ?_⟩) (fun z2 => ?_)
    · obtain rfl : j = ML.length := by omega
      rw [List.take_length]; exact h
    obtain ⟨x, hx⟩ := get_ex (l := ML) (k := j) z2
    obtain ⟨e61, x20⟩ := h61 j x hx
    have st : (ML.take (j + 1)).all (fun m => !(m &&& orP L == 0)) = ((ML.take j).all (fun m => !(m &&& orP L == 0)) && !(x &&& orP L == 0)) := by
      rw [List.take_add_one, hx, List.all_append]
      congr 1
      show (_ && true) = _
      rw [Bool.and_true]
    have go : ∀ b : Bool, b = (ML.take (j + 1)).all (fun m => !(m &&& orP L == 0)) → r_areMet_65 Q (fun b0 b1 b2 v f g => P2 (b0, b1, b2, v, f, g)) (nI (orP L)) (nI j) (bI b) v f g := by
      intro b hb
      unfold r_areMet_65
      rintro _ rfl
      rw [nI_add, hb]
      exact ih2 _ z2 rfl
    refine w_B0 (fun e => ?_) (fun e => ⟨pk_in j 48 (by omega), ?_⟩)
    · unfold r_areMet_64
      exact go false (by rw [st, e]; rfl)
    · rw [nI_clamp (show j < 2 ^ 31 by omega), e61, nI_and]
      have le : x &&& orP L ≤ x := Nat.and_le_left
      refine w_z (x &&& orP L) (fun c0 => ?_) (fun c0 => ?_)
      · unfold r_areMet_64
        exact go false (by rw [st, e, c0]; rfl)
      · refine go true ?_
        rw [st, e, Bool.true_and]
        have : (x &&& orP L == 0) = false := by simpa using (show ¬ x &&& orP L = 0 by omega)
        rw [this]; rfl
  · obtain ⟨p, hp⟩ := get_ex (l := L) (k := i) (by omega)
    obtain ⟨e64, p20⟩ := h64 i p hp
    rw [nI_clamp (show i < 2 ^ 31 by omega), e64]
    have b1 : 63 * 2 ^ p ≤ 63 * 2 ^ 19 := Nat.mul_le_mul_left 63 (Nat.pow_le_pow_right (by decide) (by omega))
    rw [nI_shl (by omega) (by omega), nI_or]
    refine ⟨pk_in i 20 (by omega), ?_⟩
    rintro _ rfl _ rfl
    rw [nI_add]
    refine ih _ z ?_
    rw [List.take_add_one, hp]
    show _ = (nI c, nI 1, nI (orP (L.take i ++ [p])), nI (i + 1), v, f, g)
    rw [orP_app]
theorem p_goesOn {Q : QI} {c n : Nat} {x : List Nat} (hx : x.length = c) (c1 : 1 ≤ c) (hcn : c ≤ n) (hn : n ≤ 20) (hlt : ∀ j i, x[j]? = some i → i + c ≤ n + j) (h63 : ∀ j i, x[j]? = some i → f 63 j = nI i) (h0 : nxC n x = none → Q (bI false) v f g) (h1 : ∀ y, nxC n x = some y → ∀ f', (∀ k, k ≠ 63 → f' k = f k) → (∀ j i, y[j]? = some i → f' 63 j = nI i) → Q (bI true) v f' g) : r_goesOn Q (nI c) (nI n) v f g := by
  unfold r_goesOn
  rw [pk_sub c1]
  intro x3 ex3
  rw [ex3]
  unfold r_goesOn_4L
  refine lfp_ind (fun y => ∃ j, j ≤ c ∧ (∀ p i, j ≤ p → x[p]? = some i → i + c = n + p) ∧ y = (nI c, nI n, nI j + (-1), v, f, g)) (fun y => (y.2.2.1 + 1).toNatClampNeg) ?_ ⟨c, Nat.le_refl _, fun p i hp hi => absurd (get_lt hi) (by omega), by
    obtain ⟨c', rfl⟩ : ∃ c', c = c' + 1 := ⟨c - 1, by omega⟩
    rw [nI_dec c' (by omega)]; rfl⟩
  rintro P _ ⟨j, hj, hmax, rfl⟩ ih
  show r_goesOn_4 Q _ (nI c) (nI n) (nI j + (-1)) v f g
  unfold r_goesOn_4 r_goesOn_28
  cases j with
  | zero =>
    have e : nI 0 + (-1) = (-1 : Int32) := by decide
    rw [e]
    refine ⟨fun _ => ⟨fun w => absurd w (by decide), fun _ => h0 (nxC_no (by omega) (fun p i hi => ?_))⟩, fun w => absurd (by decide) w⟩
    rw [hx]
    exact hmax p i (Nat.zero_le _) hi
  | succ j =>
    rw [nI_dec j (by omega)]
    obtain ⟨i, hi⟩ := get_ex (l := x) (k := j) (by omega)
    have e63 := h63 j i hi
    have ilt := hlt j i hi
    have jc' : (nI j).toNatClampNeg = j := nI_clamp (by omega)
    have jin : vp_in (nI j) 20 := pk_in j 20 (by omega)
    rw [jc', e63, pk_sub hcn, nI_add (n - c) j]
    refine w_pos j ⟨jin, w_ne i (n - c + j) (fun cne => ?_) (fun ceq => ?_)⟩
    · have pos : (0 : Int32) ≤ nI j := (nI_leI (a := 0) (by omega) (by omega)).mpr (Nat.zero_le j)
      refine ⟨fun _ => ⟨jin, jin, ?_⟩, fun w => absurd pos w⟩
      intro f2 e2
      rintro _ rfl
      rw [nI_add i 1] at e2
      rw [nI_add j 1]
      obtain ⟨t, ht⟩ : ∃ t, t = x.drop (j + 1) := ⟨_, rfl⟩
      have tl : t.length = c - (j + 1) := by rw [ht, List.length_drop, hx]
      have hxs : x = x.take j ++ i :: t := by
        rw [ht]
        conv => lhs; rw [← List.take_append_drop j x]
        congr 1
        rw [List.drop_eq_getElem_cons (show j < x.length by omega)]
        congr 1
        exact Option.some.inj ((List.getElem?_eq_getElem (show j < x.length by omega)).symm.trans hi)
      have hnx : nxC n x = some (x.take j ++ List.range' (i + 1) (t.length + 1)) := by
        conv => lhs; rw [hxs]
        refine nxC_at (by omega) (fun p i' hp => ?_) (by omega) _
        rw [ht, List.getElem?_drop] at hp
        have := hmax (j + 1 + p) i' (by omega) hp
        omega
      have fin := h1 _ hnx
      have tk : (x.take j).length = j := by rw [List.length_take]; omega
      have r2 : ∀ p, f2 63 p = if p = j then nI (i + 1) else f 63 p := fun p => by rw [e2, mU_s]
      unfold r_goesOn_49L
      refine lfp_cnt (c - (j + 1)) (fun r y => ∃ f3, (∀ k, k ≠ 63 → f3 k = f k) ∧ (∀ p, p < j → f3 63 p = f 63 p) ∧ (∀ p, j ≤ p → p < j + 1 + r → f3 63 p = nI (i + 1 + (p - j))) ∧ y = (nI c, nI (j + 1 + r), v, f3, g)) ?_ ⟨f2, fun k hk => by rw [e2, mU_n hk], fun p hp => by rw [r2, if_neg (by omega)], fun p hp1 hp2 => by rw [r2, if_pos (by omega)]; congr 1; omega, rfl⟩
      rintro P2 r _ hr ⟨f3, a1, a2, a3, rfl⟩ ih2
      show r_goesOn_49 Q _ (nI c) (nI (j + 1 + r)) v f3 g
      unfold r_goesOn_49
      refine pk_le c (j + 1 + r) (fun z => ?_) (fun z => ?_)
      · refine fin f3 a1 (fun p i' hp => ?_)
        rcases Nat.lt_or_ge p j with w | w
        · rw [List.getElem?_append_left (by omega), List.getElem?_take_of_lt w] at hp
          rw [a2 p w]; exact h63 p i' hp
        · rw [List.getElem?_append_right (by omega), tk] at hp
          have pl := get_lt hp
          rw [List.length_range'] at pl
          rw [List.getElem?_range' (by omega), Nat.one_mul] at hp
          rw [a3 p w (by omega), ← Option.some.inj hp]
      · rw [pk_sub (show 1 ≤ j + 1 + r by omega), show j + 1 + r - 1 = j + r by omega, nI_clamp (show j + r < 2 ^ 31 by omega), nI_clamp (show j + 1 + r < 2 ^ 31 by omega), a3 (j + r) (by omega) (by omega), nI_add]
        refine ⟨pk_in (j + r) 20 (by omega), pk_in (j + 1 + r) 20 (by omega), ?_⟩
        intro f4 e4
        rintro _ rfl
        rw [nI_add]
        have r4 : ∀ p, f4 63 p = if p = j + 1 + r then nI (i + 1 + (j + r - j) + 1) else f3 63 p := fun p => by rw [e4, mU_s]
        refine ih2 _ (by omega) ⟨f4, fun k hk => by rw [e4, mU_n hk]; exact a1 k hk, fun p hp => by rw [r4, if_neg (by omega)]; exact a2 p hp, fun p hp1 hp2 => ?_, by rw [Nat.add_assoc]⟩
        rw [r4]
        by_cases cp : p = j + 1 + r
        · rw [if_pos cp]; congr 1; omega
        · rw [if_neg cp]; exact a3 p hp1 (by omega)
    · rintro _ rfl
      refine ih _ ⟨j, by omega, fun p i' hp hi' => ?_, rfl⟩ ?_
      · by_cases cp : p = j
        · rw [cp, hi] at hi'
          rw [← Option.some.inj hi', cp]; omega
        · exact hmax p i' (by omega) hi'
      · show (nI j + (-1) + 1).toNatClampNeg < (nI (j + 1) + (-1) + 1).toNatClampNeg
        have e1 : ∀ z : Int32, z + (-1) + 1 = z := fun z => by
          rw [Int32.add_assoc]
          exact Int32.add_zero z
        rw [e1, e1, nI_clamp (by omega), nI_clamp (by omega)]
        omega
theorem p_chooses {Q : QV} {c : Nat} {x PL : List Nat} (hx : x.length = c) (hc : c ≤ 20) (hPL : PL.length ≤ 20) (hlt : ∀ i, i ∈ x → i < PL.length) (h63 : ∀ j i, x[j]? = some i → f 63 j = nI i) (h62 : ∀ j p, PL[j]? = some p → f 62 j = nI p) (h : ∀ f', (∀ k, k ≠ 64 → f' k = f k) → (∀ j p, (x.map (fun i => PL.getD i 0))[j]? = some p → f' 64 j = nI p) → Q v f' g) : r_chooses Q (nI c) v f g := by
  unfold r_chooses r_chooses_2L
  refine lfp_cnt c (fun r y => ∃ f2, (∀ k, k ≠ 64 → f2 k = f k) ∧ (∀ j p, j < r → (x.map (fun i => PL.getD i 0))[j]? = some p → f2 64 j = nI p) ∧ y = (nI c, nI r, v, f2, g)) ?_ ⟨f, fun _ _ => rfl, fun j p hj => absurd hj (Nat.not_lt_zero j), rfl⟩
  rintro P r _ hr ⟨f2, a1, a2, rfl⟩ ih
  show r_chooses_2 Q _ (nI c) (nI r) v f2 g
  unfold r_chooses_2
  refine pk_le c r (fun z => ?_) (fun z => ?_)
  · refine h f2 a1 (fun j p hj => a2 j p ?_ hj)
    have := get_lt hj
    rw [List.length_map] at this
    omega
  obtain ⟨i, hi⟩ := get_ex (l := x) (k := r) (by omega)
  have il := hlt i (List.mem_of_getElem? hi)
  obtain ⟨p, hp⟩ := get_ex (l := PL) (k := i) il
  have rin : vp_in (nI r) 20 := pk_in r 20 (by omega)
  rw [nI_clamp (show r < 2 ^ 31 by omega), a1 63 (by decide), h63 r i hi, nI_clamp (show i < 2 ^ 31 by omega), a1 62 (by decide), h62 i p hp]
  refine ⟨rin, pk_in i 20 (by omega), rin, ?_⟩
  intro f3 e3
  rintro _ rfl
  rw [nI_add]
  refine ih _ z ⟨f3, fun k hk => by rw [e3, mU_n hk]; exact a1 k hk, fun j p' hj hp' => ?_, rfl⟩
  rw [e3, mU_s]
  show (if j = r then nI p else f2 64 j) = _
  by_cases cj : j = r
  · rw [if_pos cj]
    rw [cj, List.getElem?_map, hi] at hp'
    have : PL.getD i 0 = p' := Option.some.inj hp'
    rw [← this, List.getD_eq_getElem?_getD, hp]; rfl
  · rw [if_neg cj]; exact a2 j p' (by omega) hp'
end PB
