/-! the reference: how rare a token is; gains; set-aside marks -/
theorem fnd_sum {P : Nat × Nat → Bool} {f : Nat → Bool} {n : Nat} : ∀ k : Nat, sumL (fun y => if P y = true then 1 else 0) (fndJ f n k) = cntB (fun j => f j && P (n, j)) k
  | 0 => rfl
  | k + 1 => by
    rw [fndJ, sumL_app, fnd_sum k, cntB]
    cases c : f k with
    | false => rfl
    | true =>
      rw [if_pos rfl, Bool.true_and]
      rfl
theorem mtL_sum {P : Nat × Nat → Bool} {sg : Nat → List Dc} {f : Nat → Nat → Bool} : ∀ ids : List Nat, sumL (fun y => if P y = true then 1 else 0) (mtL sg f ids) = sumL (fun n => cntB (fun j => f n j && P (n, j)) (sg n).length) ids
  | [] => rfl
  | n :: ids => by
    have := mtL_sum (P := P) (sg := sg) (f := f) ids
    unfold mtL at this ⊢
    rw [List.flatMap_cons, sumL_app, this, fnd_sum]
    rfl
theorem fndJ_cnt {f : Nat → Bool} {n : Nat} : ∀ k : Nat, (fndJ f n k).length = cntB f k
  | 0 => rfl
  | k + 1 => by
    rw [fndJ, List.length_append, fndJ_cnt k, cntB]
    cases f k <;> rfl
theorem mtL_cnt {sg : Nat → List Dc} {f : Nat → Nat → Bool} : ∀ ids : List Nat, (mtL sg f ids).length = allN sg f ids
  | [] => rfl
  | n :: ids => by
    have := mtL_cnt (sg := sg) (f := f) ids
    unfold mtL at this ⊢
    rw [List.flatMap_cons, List.length_append, this, fndJ_cnt]
    rfl
theorem pmk_any {l : LGt} {st : Nat → Int64} {K : Nat} {c : Int64} : (!(pmk c (tkG l st K) == 0)) = anyB (fun p => hsB l (st p) c) K := by
  rw [Bool.eq_iff_iff, anyB_ex]
  constructor
  · intro h
    by_cases z : ∃ p, (pmk c (tkG l st K)).testBit p = true
    · obtain ⟨p, hp⟩ := z
      rw [bit_hs, Bool.and_eq_true, decide_eq_true_iff] at hp
      exact ⟨p, hp.1, hp.2⟩
    · have : pmk c (tkG l st K) = 0 := by
        apply Nat.eq_of_testBit_eq
        intro p
        rw [Nat.zero_testBit]
        cases hb : (pmk c (tkG l st K)).testBit p with
        | false => rfl
        | true => exact absurd ⟨p, hb⟩ z
      rw [this] at h
      exact absurd h (by decide)
  · rintro ⟨p, hp, hb⟩
    have : (pmk c (tkG l st K)).testBit p = true := by rw [bit_hs, hb, decide_eq_true hp]; rfl
    cases z : (pmk c (tkG l st K) == 0) with
    | false => rfl
    | true =>
      rw [of_decide_eq_true (p := pmk c (tkG l st K) = 0) (by simpa using z), Nat.zero_testBit] at this
      exact absurd this (by decide)
/-- the documents of a view in rows -/
def rLv (v : Nat → Int32) (f : Nat → Nat → Int32) (sg : Nat → List Dc) (hd : Nat → Nat → Nat) (s : Vw) : Prop := v 60 = nI (mtL sg s.2 s.1).length ∧ (mtL sg s.2 s.1).length ≤ 600 ∧ ∀ q y, (mtL sg s.2 s.1)[q]? = some y → f 38 q = nI (hd y.1 y.2)
section RR
variable {v v' : Nat → Int32} {f f' : Nat → Nat → Int32} {g g' : Nat → Nat → Int64} {l : LGt} {made dn : Nat} {sg : Nat → List Dc} {hd : Nat → Nat → Nat} {s : Vw} {q m w0 w1 : Nat} {nd : Nat → Nd}
theorem rSg_at {y : Nat × Nat} (hs : rSg l v f g made dn sg hd) (hid : ∀ n, n ∈ s.1 → n < made) (hy : y ∈ mtL sg s.2 s.1) : ∃ d, (sg y.1)[y.2]? = some d ∧ rDc l (f 14) (f 15) (f 16) (f 18) (g 17) (hd y.1 y.2) d ∧ hd y.1 y.2 < 2412 := by
  obtain ⟨a1, a2, -⟩ := mtL_mem hy
  obtain ⟨d, hd'⟩ := get_ex (l := sg y.1) (k := y.2) a2
  obtain ⟨⟨-, m1⟩, ⟨-, m2⟩, h3⟩ := hs
  obtain ⟨-, -, h4⟩ := h3 y.1 (hid _ a1)
  obtain ⟨-, k2, k3⟩ := h4 y.2 d hd'
  exact ⟨d, hd', k3, by omega⟩
end RR
