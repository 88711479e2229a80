/-! the reference: sorting -/
theorem mtL_filter {sg : Nat → List Dc} {f : Nat → Nat → Bool} {P : Nat × Nat → Bool} : ∀ ids : List Nat, mtL sg (fun n j => f n j && P (n, j)) ids = (mtL sg f ids).filter P
  | [] => rfl
  | n :: ids => by
    have ih := mtL_filter (sg := sg) (f := f) (P := P) ids
    have e : ∀ k, fndJ (fun j => f n j && P (n, j)) n k = (fndJ (f n) n k).filter P := by
      intro k
      induction k with
      | zero => rfl
      | succ k ihk =>
        rw [fndJ, fndJ, List.filter_append, ihk]
        congr 1
        cases f n k with
        | false => rfl
        | true =>
          rw [Bool.true_and, if_pos rfl, List.filter_cons, List.filter_nil]
    unfold mtL at ih ⊢
    rw [List.flatMap_cons, List.flatMap_cons, List.filter_append, ih]
    congr 1
    exact e _
theorem mtQ_filter {sg : Nat → List Dc} {s : Vw} {e : Nat × (Nat → Nd)} : mtQ sg s e = (mtL sg s.2 s.1).filter (fun y => mtB e (sg y.1) y.2) := by
  unfold mtQ
  exact mtL_filter (P := fun y => mtB e (sg y.1) y.2) s.1
def ltB (dn : Bool) (a b : Nat) : Bool := if dn = true then decide (b < a) else decide (a < b)
theorem ltB_t {dn : Bool} {a b : Nat} : ltB dn a b = true ↔ if dn = true then b < a else a < b := by
  unfold ltB
  cases dn <;> simp
theorem ltB_f {dn : Bool} {a b : Nat} : ltB dn a b = false ↔ if dn = true then a ≤ b else b ≤ a := by
  unfold ltB
  cases dn <;> simp
/-- indices sorted -/
def srW (N : Nat → Nat) (dn : Bool) (k : Nat) (W : List Nat) : Prop := W.Perm (List.range k) ∧ (∀ (p i : Nat), W[p]? = some i → splN N dn k i = p) ∧ ∀ (p p' i i' : Nat), p < p' → W[p]? = some i → W[p']? = some i' → ltB dn (N i') (N i) = false
theorem cntB_range {P : Nat → Bool} : ∀ k : Nat, cntB P k = (List.range k).countP P
  | 0 => rfl
  | k + 1 => by
    rw [cntB, List.range_succ, List.countP_append, cntB_range k]
    congr 1
    rw [List.countP_cons, List.countP_nil, Nat.zero_add]
theorem srW_ins {N : Nat → Nat} {dn : Bool} {k p0 : Nat} {W : List Nat} (h : srW N dn k W) (hp : p0 ≤ k) (h1 : ∀ p i, p < p0 → W[p]? = some i → ltB dn (N k) (N i) = false) (h2 : ∀ p i, p0 ≤ p → W[p]? = some i → ltB dn (N k) (N i) = true) : srW N dn (k + 1) (W.take p0 ++ k :: W.drop p0) := by
  obtain ⟨a1, a2, a3⟩ := h
  have wl : W.length = k := by rw [a1.length_eq, List.length_range]
  have hpW : p0 ≤ W.length := by omega
  have lt : ∀ {p i : Nat}, W[p]? = some i → i < k := fun {p i} hi => List.mem_range.mp (a1.mem_iff.mp (List.mem_of_getElem? hi))
  have sp : ∀ i, splN N dn (k + 1) i = splN N dn k i + if gaB dn (N k) (N i) k i = true then 1 else 0 := fun i => rfl
  have gk : ∀ i, i < k → gaB dn (N k) (N i) k i = ltB dn (N k) (N i) := fun i hi => by
    unfold gaB ltB
    rw [decide_eq_false (show ¬ k < i by omega), Bool.and_false, Bool.or_false]
  have gj : ∀ j, j < k → gaB dn (N j) (N k) j k = !ltB dn (N k) (N j) := fun j hj => by
    unfold gaB ltB
    rw [decide_eq_true hj, Bool.and_true, Bool.eq_iff_iff, Bool.or_eq_true, Bool.not_eq_true']
    cases dn <;> simp <;> omega
  refine ⟨?_, fun p i hi => ?_, fun p p' i i' hpp hi hi' => ?_⟩
  · rw [List.range_succ]
    refine (List.perm_middle).trans ?_
    rw [List.take_append_drop]
    exact (List.Perm.cons k a1).trans (List.perm_append_singleton k (List.range k)).symm
  · rcases (insA_get hpW).mp hi with ⟨c, hi⟩ | ⟨rfl, rfl⟩ | ⟨c, hi⟩
    · rw [sp, gk i (lt hi), h1 p i c hi, a2 p i hi]; rfl
    · rw [sp]
      have e1 : gaB dn (N i) (N i) i i = false := by
        unfold gaB
        cases dn <;> simp
      rw [e1]
      show splN N dn i i + 0 = p
      rw [Nat.add_zero]
      unfold splN
      rw [cntB_ext (h := fun j => !ltB dn (N i) (N j)) (fun j hj => gj j hj), cntB_range, ← a1.countP_eq]
      conv => lhs; rw [← List.take_append_drop p W]
      rw [List.countP_append]
      have c1 : (W.take p).countP (fun j => !ltB dn (N i) (N j)) = (W.take p).length := List.countP_eq_length.mpr (fun j hj => by
        obtain ⟨q, hq⟩ := List.mem_iff_getElem?.mp hj
        have ql := get_lt hq
        rw [List.length_take] at ql
        rw [List.getElem?_take_of_lt (by omega)] at hq
        rw [h1 q j (by omega) hq]; rfl)
      have c2 : (W.drop p).countP (fun j => !ltB dn (N i) (N j)) = 0 := List.countP_eq_zero.mpr (fun j hj => by
        obtain ⟨q, hq⟩ := List.mem_iff_getElem?.mp hj
        rw [List.getElem?_drop] at hq
        rw [h2 (p + q) j (by omega) hq]; decide)
      rw [c1, c2, List.length_take]; omega
    · rw [sp, gk i (lt hi), h2 (p - 1) i (by omega) hi, a2 (p - 1) i hi, if_pos rfl]; omega
  · rcases (insA_get hpW).mp hi with ⟨c, hi⟩ | ⟨rfl, rfl⟩ | ⟨c, hi⟩
    · rcases (insA_get hpW).mp hi' with ⟨c', hi'⟩ | ⟨rfl, rfl⟩ | ⟨c', hi'⟩
      · exact a3 p p' i i' hpp hi hi'
      · exact h1 p i c (by assumption)
      · exact a3 p (p' - 1) i i' (by omega) hi hi'
    · rcases (insA_get hpW).mp hi' with ⟨c', hi'⟩ | ⟨rfl, rfl⟩ | ⟨c', hi'⟩
      · omega
      · omega
      · have := h2 (p' - 1) i' (by omega) hi'
        rw [ltB_t] at this
        rw [ltB_f]
        cases dn <;> simp at this ⊢ <;> omega
    · rcases (insA_get hpW).mp hi' with ⟨c', hi'⟩ | ⟨rfl, rfl⟩ | ⟨c', hi'⟩
      · omega
      · omega
      · exact a3 (p - 1) (p' - 1) i i' (by omega) hi hi'
section SO
variable {v v' : Nat → Int32} {f f' : Nat → Nat → Int32} {g g' : Nat → Nat → Int64} {l : LGt} {made dn : Nat} {sg : Nat → List Dc} {hd : Nat → Nat → Nat} {sl : Nat → Option (Nat × Vw)} {a k q m w0 w1 : Nat} {s : Vw} {nd : Nat → Nd} {rr : Nat → Nat} {qs : List (Nat × (Nat → Nd))}
/-- one document is inserted -/
theorem p_sorted59 {Q : QI} {R30 : Int32 → Int32 → Int32 → Int32 → Int32 → QV} {x2 x4 : Int32} {up : Bool} {N : Nat → Nat} {h : Nat → Nat} {c i : Nat} {W : List Nat} (hW : srW N up c W) (hc : c < 2424) (hi : i < 2424) (hh : ∀ j, j ≤ c → h j < 2424 ∧ f 16 (h j) = nI (N j) ∧ N j < 1000) (h38 : f 38 i = nI (h c)) (h39 : ∀ p j, W[p]? = some j → f 39 p = nI (h j)) (hk : ∀ f' W', (∀ n, n ≠ 39 → f' n = f n) → srW N up (c + 1) W' → (∀ p j, W'[p]? = some j → f' 39 p = nI (h j)) → R30 x2 (bI up) x4 (nI (c + 1)) (nI (i + 1)) v f' g) : r_sortedAt_59L Q R30 x2 (bI up) x4 (nI c) (nI i) (nI c) v f g := by
  have wl : W.length = c := by rw [hW.1.length_eq, List.length_range]
  have lt : ∀ {p j : Nat}, W[p]? = some j → j < c := fun {p j} hj => List.mem_range.mp (hW.1.mem_iff.mp (List.mem_of_getElem? hj))
  unfold r_sortedAt_59L
  refine lfp_ind (fun y => ∃ p f2, p ≤ c ∧ (∀ n, n ≠ 39 → f2 n = f n) ∧ (∀ r j, p ≤ r → W[r]? = some j → ltB up (N c) (N j) = true) ∧ (∀ r j, W[r]? = some j → (r < p → f2 39 r = nI (h j)) ∧ (p ≤ r → f2 39 (r + 1) = nI (h j))) ∧ y = (x2, bI up, x4, nI c, nI i, nI p, v, f2, g)) (fun y => y.2.2.2.2.2.1.toNatClampNeg) ?_ ⟨c, f, Nat.le_refl _, fun _ _ => rfl, fun r j hr hj => absurd (get_lt hj) (by omega), fun r j hj => ⟨fun _ => h39 r j hj, fun hr => absurd (get_lt hj) (by omega)⟩, rfl⟩
  rintro P _ ⟨p, f2, hp, a1, a2, a3, rfl⟩ ih
  show r_sortedAt_59 Q R30 _ x2 (bI up) x4 (nI c) (nI i) (nI p) v f2 g
  have ic : (nI i).toNatClampNeg = i := nI_clamp (by omega)
  have pc : (nI p).toNatClampNeg = p := nI_clamp (by omega)
  have iin : vp_in (nI i) 2424 := pk_in i 2424 hi
  have pin : vp_in (nI p) 2424 := pk_in p 2424 (by omega)
  have e38 : f2 38 i = nI (h c) := by rw [a1 38 (by decide)]; exact h38
  have stop : (∀ r j, r < p → W[r]? = some j → ltB up (N c) (N j) = false) → r_sortedAt_151 Q R30 x2 (bI up) x4 (nI c) (nI i) (nI p) v f2 g := by
    intro hb
    unfold r_sortedAt_151
    rw [ic, pc, e38]
    refine ⟨iin, pin, ?_⟩
    intro f3 e3
    rintro _ rfl
    unfold r_sortedAt_168
    rintro _ rfl
    rw [nI_add, nI_add]
    refine hk f3 _ (fun n hn => by rw [e3, mU_n hn]; exact a1 n hn) (srW_ins hW hp hb a2) (fun r j hj => ?_)
    have r39 : f3 39 r = if r = p then nI (h c) else f2 39 r := by rw [e3, mU_s]
    rw [r39]
    rcases (insA_get (show p ≤ W.length by omega)).mp hj with ⟨z, hj⟩ | ⟨rfl, rfl⟩ | ⟨z, hj⟩
    · rw [if_neg (by omega)]; exact (a3 r j hj).1 z
    · rw [if_pos rfl]
    · rw [if_neg (by omega)]
      have := (a3 (r - 1) j hj).2 (by omega)
      rwa [show r - 1 + 1 = r by omega] at this
  unfold r_sortedAt_59
  refine pk_le p 0 (fun z => stop (fun r j hr _ => absurd hr (by omega))) (fun z => ?_)
  obtain ⟨p', rfl⟩ : ∃ p', p = p' + 1 := ⟨p - 1, by omega⟩
  obtain ⟨j0, hj0⟩ := get_ex (l := W) (k := p') (by omega)
  have e0 := (a3 p' j0 hj0).1 (Nat.lt_succ_self _)
  have j0c := lt hj0
  obtain ⟨hh1, hh2, hh3⟩ := hh j0 (by omega)
  obtain ⟨hc1, hc2, hc3⟩ := hh c (Nat.le_refl _)
  rw [pk_sub (show 1 ≤ p' + 1 by omega), show p' + 1 - 1 = p' by omega, nI_clamp (show p' < 2 ^ 31 by omega), ic, e38, e0, nI_clamp (show h j0 < 2 ^ 31 by omega), nI_clamp (show h c < 2 ^ 31 by omega), a1 16 (by decide), hh2, hc2]
  have p'in : vp_in (nI p') 2424 := pk_in p' 2424 (by omega)
  have h1in : vp_in (nI (h j0)) 2424 := pk_in (h j0) 2424 hh1
  have h2in : vp_in (nI (h c)) 2424 := pk_in (h c) 2424 hc1
  have st : ltB up (N c) (N j0) = false → r_sortedAt_151 Q R30 x2 (bI up) x4 (nI c) (nI i) (nI (p' + 1)) v f2 g := fun hf => stop (fun r j hr hj => by
    by_cases c2 : r = p'
    · rw [c2, hj0] at hj
      rw [← Option.some.inj hj]; exact hf
    · have := hW.2.2 r p' j j0 (by omega) hj hj0
      rw [ltB_f] at this hf ⊢
      cases up <;> simp at this hf ⊢ <;> omega)
  have go : ltB up (N c) (N j0) = true → r_sortedAt_129 Q R30 (fun b0 b1 b2 b3 b4 b5 v f g => P (b0, b1, b2, b3, b4, b5, v, f, g)) x2 (bI up) x4 (nI c) (nI i) (nI (p' + 1)) v f2 g := by
    intro ht
    unfold r_sortedAt_129
    rw [pk_sub (show 1 ≤ p' + 1 by omega), show p' + 1 - 1 = p' by omega, nI_clamp (show p' < 2 ^ 31 by omega), pc, e0]
    refine ⟨p'in, pin, ?_⟩
    intro f3 e3
    rintro _ rfl
    rw [nI_dec p' (by omega)]
    refine ih _ ⟨p', f3, by omega, fun n hn => by rw [e3, mU_n hn]; exact a1 n hn, fun r j hr hj => ?_, fun r j hj => ?_, rfl⟩ ?_
    · by_cases c2 : r = p'
      · rw [c2, hj0] at hj
        rw [← Option.some.inj hj]; exact ht
      · exact a2 r j (by omega) hj
    · have r39 : ∀ r, f3 39 r = if r = p' + 1 then nI (h j0) else f2 39 r := fun r => by rw [e3, mU_s]
      refine ⟨fun z => ?_, fun z => ?_⟩
      · rw [r39, if_neg (by omega)]
        exact (a3 r j hj).1 (by omega)
      · rw [r39]
        by_cases c2 : r = p'
        · rw [c2, if_pos rfl]
          rw [c2, hj0] at hj
          rw [Option.some.inj hj]
        · rw [if_neg (by omega)]
          exact (a3 r j hj).2 (by omega)
    · show (nI p').toNatClampNeg < (nI (p' + 1)).toNatClampNeg
      rw [nI_clamp (by omega), nI_clamp (by omega)]
      omega
  cases up with
  | false =>
    refine ⟨fun _ => ⟨p'in, h1in, iin, h2in, pk_le (N j0) (N c) (fun z2 => st ?_) (fun z2 => go ?_)⟩, fun w => absurd rfl w⟩
    · rw [ltB_f]; exact z2
    · rw [ltB_t]; exact z2
  | true =>
    refine ⟨fun w => absurd w (by decide), fun _ => ⟨p'in, h1in, iin, h2in, pk_le (N c) (N j0) (fun z2 => st ?_) (fun z2 => go ?_)⟩⟩
    · rw [ltB_f]; exact z2
    · rw [ltB_t]; exact z2
end SO
