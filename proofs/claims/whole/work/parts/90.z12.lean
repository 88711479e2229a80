/-! the reference: how rare a token is; gains; set-aside marks -/
theorem fnd_sum {P : Nat × Nat → Bool} {f : Nat → Bool} {n : Nat} : ∀ k : Nat, sumL (fun y => if P y = true then 1 else 0) (fndJ f n k) = cntB (fun j => f j && P (n, j)) k
  | 0 => rfl
  | k + 1 => by
    rw [fndJ, sumL_app, fnd_sum k, cntB]
    cases c : f k with
    | false => rfl
    | true =>
      rw [if_pos rfl, Bool.true_and]
      rfl
theorem mtL_sum {P : Nat × Nat → Bool} {sg : Nat → List Dc} {f : Nat → Nat → Bool} : ∀ ids : List Nat, sumL (fun y => if P y = true then 1 else 0) (mtL sg f ids) = sumL (fun n => cntB (fun j => f n j && P (n, j)) (sg n).length) ids
  | [] => rfl
  | n :: ids => by
    have := mtL_sum (P := P) (sg := sg) (f := f) ids
    unfold mtL at this ⊢
    rw [List.flatMap_cons, sumL_app, this, fnd_sum]
    rfl
theorem fndJ_cnt {f : Nat → Bool} {n : Nat} : ∀ k : Nat, (fndJ f n k).length = cntB f k
  | 0 => rfl
  | k + 1 => by
    rw [fndJ, List.length_append, fndJ_cnt k, cntB]
    cases f k <;> rfl
theorem mtL_cnt {sg : Nat → List Dc} {f : Nat → Nat → Bool} : ∀ ids : List Nat, (mtL sg f ids).length = allN sg f ids
  | [] => rfl
  | n :: ids => by
    have := mtL_cnt (sg := sg) (f := f) ids
    unfold mtL at this ⊢
    rw [List.flatMap_cons, List.length_append, this, fndJ_cnt]
    rfl
theorem pmk_any {l : LGt} {st : Nat → Int64} {K : Nat} {c : Int64} : (!(pmk c (tkG l st K) == 0)) = anyB (fun p => hsB l (st p) c) K := by
  rw [Bool.eq_iff_iff, anyB_ex]
  constructor
  · intro h
    by_cases z : ∃ p, (pmk c (tkG l st K)).testBit p = true
    · obtain ⟨p, hp⟩ := z
      rw [bit_hs, Bool.and_eq_true, decide_eq_true_iff] at hp
      exact ⟨p, hp.1, hp.2⟩
    · have : pmk c (tkG l st K) = 0 := by
        apply Nat.eq_of_testBit_eq
        intro p
        rw [Nat.zero_testBit]
        cases hb : (pmk c (tkG l st K)).testBit p with
        | false => rfl
        | true => exact absurd ⟨p, hb⟩ z
      rw [this] at h
      exact absurd h (by decide)
  · rintro ⟨p, hp, hb⟩
    have : (pmk c (tkG l st K)).testBit p = true := by rw [bit_hs, hb, decide_eq_true hp]; rfl
    cases z : (pmk c (tkG l st K) == 0) with
    | false => rfl
    | true =>
      rw [of_decide_eq_true (p := pmk c (tkG l st K) = 0) (by simpa using z), Nat.zero_testBit] at this
      exact absurd this (by decide)
/-- the documents of a view in rows -/
def rLv (v : Nat → Int32) (f : Nat → Nat → Int32) (sg : Nat → List Dc) (hd : Nat → Nat → Nat) (s : Vw) : Prop := v 60 = nI (mtL sg s.2 s.1).length ∧ (mtL sg s.2 s.1).length ≤ 600 ∧ ∀ q y, (mtL sg s.2 s.1)[q]? = some y → f 38 q = nI (hd y.1 y.2)
section RR
variable {v v' : Nat → Int32} {f f' : Nat → Nat → Int32} {g g' : Nat → Nat → Int64} {l : LGt} {made dn : Nat} {sg : Nat → List Dc} {hd : Nat → Nat → Nat} {s : Vw} {q m w0 w1 : Nat} {nd : Nat → Nd}
theorem rSg_at {y : Nat × Nat} (hs : rSg l v f g made dn sg hd) (hid : ∀ n, n ∈ s.1 → n < made) (hy : y ∈ mtL sg s.2 s.1) : ∃ d, (sg y.1)[y.2]? = some d ∧ rDc l (f 14) (f 15) (f 16) (f 18) (g 17) (hd y.1 y.2) d ∧ hd y.1 y.2 < 2412 := by
  obtain ⟨a1, a2, -⟩ := mtL_mem hy
  obtain ⟨d, hd'⟩ := get_ex (l := sg y.1) (k := y.2) a2
  obtain ⟨⟨-, m1⟩, ⟨-, m2⟩, h3⟩ := hs
  obtain ⟨-, -, h4⟩ := h3 y.1 (hid _ a1)
  obtain ⟨-, k2, k3⟩ := h4 y.2 d hd'
  exact ⟨d, hd', k3, by omega⟩
theorem p_rarity {Q : QI} {fl : Nat} {c : Int64} (hl : rLg v g l) (hs : rSg l v f g made dn sg hd) (hv : rLv v f sg hd s) (hid : ∀ n, n ∈ s.1 → n < made) (hfl : fl < 2) (h : Q (nI (rarN (allN sg s.2 s.1) (hvN sg s.2 s.1 fl c))) v f g) : r_rarity Q (nI fl) c v f g := by
  obtain ⟨T, hT⟩ : ∃ T, T = mtL sg s.2 s.1 := ⟨_, rfl⟩
  obtain ⟨v60, T6, v38⟩ := hv
  have hmem : ∀ y, y ∈ T → _ := fun y hy => rSg_at (s := s) hs hid (by rw [← hT]; exact hy)
  rw [← hT] at v60 T6 v38
  obtain ⟨P0, hP0⟩ : ∃ P0 : Nat × Nat → Bool, P0 = fun y => !(mF (sg y.1) fl c y.2 == 0) := ⟨_, rfl⟩
  obtain ⟨F, hF⟩ : ∃ F : Nat × Nat → Nat, F = fun y => if P0 y = true then 1 else 0 := ⟨_, rfl⟩
  have tot : sumL F T = hvN sg s.2 s.1 fl c := by
    rw [hF, hT, mtL_sum]
    unfold hvN
    have key : ∀ L : List Nat, (∀ n, n ∈ L → n < made) → sumL (fun n => cntB (fun j => s.2 n j && P0 (n, j)) (sg n).length) L = sumL (hvC sg s.2 fl c) L := by
      intro L
      induction L with
      | nil => intro _; rfl
      | cons n L ihL =>
        intro hL
        show cntB (fun j => s.2 n j && P0 (n, j)) (sg n).length + sumL _ L = hvC sg s.2 fl c n + sumL _ L
        rw [ihL (fun n' h' => hL n' (List.mem_cons_of_mem _ h')), hvC_len (hs.2.2 n (hL n List.mem_cons_self)).2.1, hP0]
    exact key s.1 hid
  have all : T.length = allN sg s.2 s.1 := by rw [hT, mtL_cnt]
  have sle : ∀ L : List (Nat × Nat), sumL F L ≤ L.length := by
    intro L
    induction L with
    | nil => exact Nat.le_refl _
    | cons a L ihL =>
      show F a + sumL F L ≤ L.length + 1
      have : F a ≤ 1 := by rw [hF]; dsimp only; split <;> omega
      omega
  unfold r_rarity r_rarity_6L
  refine lfp_cnt T.length (fun i y => y = (nI fl, c, nI (sumL F (T.take i)), nI i, v, f, g)) ?_ rfl
  rintro P i _ hi rfl ih
  show r_rarity_6 Q _ (nI fl) c (nI (sumL F (T.take i))) (nI i) v f g
  have si := sle (T.take i)
  rw [List.length_take] at si
  unfold r_rarity_6
  rw [v60, nI_add, nI_add]
  refine pk_le T.length i (fun z => ?_) (fun z => ?_)
  · obtain rfl : i = T.length := by omega
    rw [List.take_length, tot] at si ⊢
    rw [pk_div (by omega) (by omega) (by omega)]
    refine ⟨fun e => absurd ((nI_z (by omega)).mp e) (by omega), ?_⟩
    intro x6 ex6
    rw [ex6]
    have e0 : rarN (allN sg s.2 s.1) (hvN sg s.2 s.1 fl c) = rarL ((T.length + 1) / (hvN sg s.2 s.1 fl c + 1)) ((T.length + 1) / (hvN sg s.2 s.1 fl c + 1)) := by rw [all]; rfl
    have q0 : (T.length + 1) / (hvN sg s.2 s.1 fl c + 1) ≤ T.length + 1 := Nat.div_le_self _ _
    unfold r_rarity_115L
    refine lfp_ind (fun y => ∃ a b, a + rarL b b = rarN (allN sg s.2 s.1) (hvN sg s.2 s.1 fl c) + 1 ∧ b ≤ T.length + 1 ∧ y = (nI a, nI b, v, f, g)) (fun y => y.2.1.toNatClampNeg) ?_ ⟨1, _, by rw [e0, Nat.add_comm], q0, rfl⟩
    rintro P2 _ ⟨a, b, h1, h2, rfl⟩ ih2
    show r_rarity_115 Q _ (nI a) (nI b) v f g
    unfold r_rarity_115
    refine pk_le b 1 (fun z2 => ?_) (fun z2 => ?_)
    · have : rarL b b = 1 := by
        rcases Nat.lt_or_ge b 1 with w | w
        · rw [show b = 0 by omega]; rfl
        · rw [show b = 1 by omega]; rfl
      rw [show a = rarN (allN sg s.2 s.1) (hvN sg s.2 s.1 fl c) by omega]
      exact h
    · rintro _ rfl _ rfl
      rw [nI_add, pk_div (by omega) (by omega) (by omega)]
      have := rarL_s z2
      refine ih2 _ ⟨a + 1, b / 2, by omega, by omega, rfl⟩ ?_
      show (nI (b / 2)).toNatClampNeg < (nI b).toNatClampNeg
      rw [nI_clamp (by omega), nI_clamp (by omega)]
      omega
  · obtain ⟨y, hy⟩ := get_ex (l := T) (k := i) z
    obtain ⟨d, hd', ⟨-, -, -, hx⟩, hlt⟩ := hmem y (List.mem_of_getElem? hy)
    obtain ⟨K, K20, eK, hTd, hwK⟩ := hx fl hfl
    have e38 := v38 i y hy
    obtain ⟨kk, hkk⟩ : ∃ kk, kk = hd y.1 y.2 := ⟨_, rfl⟩
    rw [← hkk] at e38 eK hTd hlt
    have pv : P0 y = anyB (fun p => hsB l (g 17 (40 * kk + (20 * fl + p))) c) K := by
      rw [hP0]
      show (!(pmk c (tlD (sg y.1) fl y.2) == 0)) = _
      rw [tlD_at hd', hTd, pmk_any]
    obtain ⟨H, hH⟩ : ∃ H : Nat → Bool, H = fun p => hsB l (g 17 (40 * kk + (20 * fl + p))) c := ⟨_, rfl⟩
    rw [← hH] at pv
    have iin : vp_in (nI i) 2424 := pk_in i 2424 (by omega)
    have ic : (nI i).toNatClampNeg = i := nI_clamp (by omega)
    unfold r_rarity_21L
    refine lfp_cnt K (fun p y' => y' = (nI fl, c, nI (sumL F (T.take i)), nI i, bI (anyB H p), nI p, v, f, g)) ?_ rfl
    rintro P2 p _ hp rfl ih2
    show r_rarity_21 Q _ _ (nI fl) c (nI (sumL F (T.take i))) (nI i) (bI (anyB H p)) (nI p) v f g
    have step := anyB_s H p
    unfold r_rarity_21
    rw [ic, e38, pk_mul, nI_add, nI_clamp (show 2 * kk + fl < 2 ^ 31 by omega), eK]
    refine ⟨iin, pk_in (2 * kk + fl) 4848 (by omega), pk_le K p (fun z2 => ?_) (fun z2 => ?_)⟩
    · obtain rfl : p = K := by omega
      unfold r_rarity_90
      rw [← pv]
      have go : ∀ b : Nat, (b = if P0 y = true then 1 else 0) → ∀ x4_4 : Int32, x4_4 = nI (sumL F (T.take i)) + nI b → ∀ x5_5 : Int32, x5_5 = nI i + nI 1 → P (nI fl, c, x4_4, x5_5, v, f, g) := by
        rintro b hb _ rfl _ rfl
        rw [nI_add, nI_add]
        refine ih _ (by omega) ?_
        have : F y = b := by rw [hF, hb]
        rw [sumL_takeG hy, this]
      exact w_B0 (fun e => go 0 (by rw [e]; rfl)) (fun e => go 1 (by rw [e]; rfl))
    · have go : ∀ b : Bool, b = anyB H (p + 1) → r_rarity_70 Q (fun b0 b1 b2 b3 v f g => P (b0, b1, b2, b3, v, f, g)) (fun b0 b1 b2 b3 b4 b5 v f g => P2 (b0, b1, b2, b3, b4, b5, v, f, g)) (nI fl) c (nI (sumL F (T.take i))) (nI i) (nI p) (bI b) v f g := by
        intro b hb
        unfold r_rarity_70
        rintro _ rfl
        rw [nI_add, hb]
        exact ih2 _ (by omega) rfl
      refine w_Bn (fun e => go true (by rw [step, e]; rfl)) (fun e => ⟨iin, ?_⟩)
      refine p_hasAt hl (by omega) hfl (by omega) rfl ?_
      have hp2 : hsB l (g 17 (40 * kk + (20 * fl + p))) c = H p := by rw [hH]
      rw [hp2]
      exact w_B0 (fun e2 => go false (by rw [step, e, e2]; rfl)) (fun e2 => go true (by rw [step, e, e2]; rfl))
end RR
