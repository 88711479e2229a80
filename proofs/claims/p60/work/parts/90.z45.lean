/-! both worlds together: the cache by recency; find -/
theorem perm_er {α : Type} {l : List α} {a : Nat} {x : α} (h : l[a]? = some x) : (x :: l.eraseIdx a).Perm l := by
  have hl := get_lt h
  have e : l = l.take a ++ x :: l.drop (a + 1) := by
    conv => lhs; rw [← List.take_append_drop a l]
    congr 1
    rw [List.drop_eq_getElem_cons hl]
    congr 1
    exact Option.some.inj ((List.getElem?_eq_getElem hl).symm.trans h)
  rw [List.eraseIdx_eq_take_drop_succ]
  conv => rhs; rw [e]
  exact List.perm_middle.symm
theorem perm_set {α : Type} {l : List α} {a : Nat} {x : α} (h : a < l.length) : (l.set a x).Perm (x :: l.eraseIdx a) := by
  have h1 : (l.set a x)[a]? = some x := by rw [List.getElem?_set_self h]
  have h2 : (l.set a x).eraseIdx a = l.eraseIdx a := List.ext_getElem? (fun j => by
    rw [er_get, er_get]
    split
    · rw [List.getElem?_set_ne (by omega)]
    · rw [List.getElem?_set_ne (by omega)])
  have := perm_er h1
  rw [h2] at this
  exact this.symm
theorem olC_min (CL : List (Nat × Nat × Nat)) : ∀ k i, i ≤ k → (CL.getD (olC CL k) (0, 0, 0)).2.2 ≤ (CL.getD i (0, 0, 0)).2.2
  | 0, i, h => by
    obtain rfl : i = 0 := by omega
    exact Nat.le_refl _
  | k + 1, i, h => by
    rw [olC]
    by_cases c : i = k + 1
    · subst c
      split
      · exact Nat.le_refl _
      · omega
    · have ih := olC_min CL k i (by omega)
      split
      · omega
      · exact ih
def kyC (x : Nat × Nat × Nat) : Nat × Nat := (x.1, x.2.1)
/-- one entry leaves, one comes -/
theorem cRL_mv {CL P : List (Nat × Nat × Nat)} {u i a : Nat} {x : Nat × Nat × Nat} {y : Nat × Nat} (hp : P.Perm CL) (hi : CL[i]? = some x) (ha : P[a]? = some x) (hpw : P.Pairwise (fun s t => s.2.2 < t.2.2)) (hu : ∀ z, z ∈ CL → z.2.2 ≤ u) (hnd : (P.map kyC).Nodup) (h8 : CL.length ≤ 8) (hy : y ∉ (P.map kyC).eraseIdx a) : cRL (CL.set i (y.1, y.2, u + 1)) (u + 1) ((P.map kyC).eraseIdx a ++ [y]) := by
  have il := get_lt hi
  have pe : (P.eraseIdx a).Perm (CL.eraseIdx i) := by
    have h1 := (perm_er ha).trans (hp.trans (perm_er hi).symm)
    exact h1.cons_inv
  have em : (P.eraseIdx a).map kyC = (P.map kyC).eraseIdx a := List.ext_getElem? (fun j => by
    rw [List.getElem?_map, er_get, er_get]
    split <;> rw [List.getElem?_map])
  refine ⟨P.eraseIdx a ++ [(y.1, y.2, u + 1)], ?_, ?_, ?_, fun z hz => ?_, ?_, by rw [List.length_set]; exact h8⟩
  · exact (List.perm_append_singleton _ _).trans ((List.Perm.cons _ pe).trans (perm_set il).symm)
  · rw [← em, List.map_append]; rfl
  · refine List.pairwise_append.mpr ⟨hpw.sublist (List.eraseIdx_sublist _ _), List.pairwise_singleton _ _, fun s hs t ht => ?_⟩
    rw [List.mem_singleton.mp ht]
    have := hu s (hp.mem_iff.mp (List.mem_of_mem_eraseIdx hs))
    show s.2.2 < u + 1
    omega
  · rcases List.mem_or_eq_of_mem_set hz with h | h
    · have := hu z h; omega
    · rw [h]; exact Nat.le_refl _
  · refine List.nodup_append.mpr ⟨hnd.sublist (List.eraseIdx_sublist _ _), List.nodup_cons.mpr ⟨List.not_mem_nil, List.nodup_nil⟩, fun s hs t ht e => ?_⟩
    rw [e, List.mem_singleton.mp ht] at hs
    exact hy hs
theorem nd_er {α : Type} {l : List α} {a : Nat} {x : α} (h : l.Nodup) (ha : l[a]? = some x) : x ∉ l.eraseIdx a := by
  have := (perm_er ha).nodup_iff.mpr h
  exact (List.nodup_cons.mp this).1
theorem cRL_step {CL CL' : List (Nat × Nat × Nat)} {u u' tk tk' qn n : Nat} {R R' : List (Nat × Nat)} {b : Bool} (h : cRL CL u R) (hc : caS qn n (CL, u, tk) (CL', u', tk')) (ht : tkS R (qn, n) R' b) : cRL CL' u' R' ∧ u' = u + 1 ∧ tk' = tk + (if b = true then 1 else 0) ∧ ∀ x, x ∈ CL' → x ∈ CL ∨ (x.1 = qn ∧ x.2.1 = n) := by
  obtain ⟨P, hp, hm, hpw, hu, hnd, h8⟩ := h
  obtain ⟨eu, hc⟩ := hc
  have eu : u' = u + 1 := eu
  subst eu
  have hmk : P.map kyC = R := hm
  subst hmk
  obtain ⟨a, rfl, ht⟩ := ht
  have pl : P.length = CL.length := hp.length_eq
  rcases hc with ⟨i, x, hi, x1, x2, -, e1, e2⟩ | ⟨hno, e1, e2⟩
  · have hi : CL[i]? = some x := hi
    have hx : x ∈ P := hp.mem_iff.mpr (List.mem_of_getElem? hi)
    have kx : kyC x = (qn, n) := by unfold kyC; rw [x1, x2]
    rcases ht with ⟨rfl, ha⟩ | ⟨-, hn, -⟩
    · rw [List.getElem?_map] at ha
      cases hpa : P[a]? with
      | none => rw [hpa] at ha; exact absurd ha (by simp)
      | some z =>
        rw [hpa] at ha
        have kz : kyC z = (qn, n) := Option.some.inj ha
        obtain ⟨a', ha'⟩ := List.mem_iff_getElem?.mp hx
        have e3 : (P.map kyC)[a']? = some (qn, n) := by rw [List.getElem?_map, ha', Option.map_some, kx]
        have e4 : (P.map kyC)[a]? = some (qn, n) := by rw [List.getElem?_map, hpa, Option.map_some, kz]
        have : a' = a := by
          have l1 := get_lt e3
          have l2 := get_lt e4
          exact (List.getElem_inj hnd).mp (Option.some.inj (((List.getElem?_eq_getElem l1).symm.trans e3).trans (e4.symm.trans (List.getElem?_eq_getElem l2))))
        subst this
        have r := cRL_mv (y := (qn, n)) hp hi ha' hpw hu hnd h8 (nd_er hnd e3)
        have e1 : CL' = CL.set i (qn, n, u + 1) := e1
        rw [e1]
        refine ⟨r, rfl, e2, fun z hz => ?_⟩
        rcases List.mem_or_eq_of_mem_set hz with h | h
        · exact Or.inl h
        · rw [h]; exact Or.inr ⟨rfl, rfl⟩
    · exact absurd (List.mem_map.mpr ⟨x, hx, kx⟩) hn
  · rcases ht with ⟨-, ha⟩ | ⟨rfl, hn, ea⟩
    · obtain ⟨z, hz, kz⟩ := List.mem_map.mp (List.mem_of_getElem? ha)
      have := hno z (hp.mem_iff.mp hz)
      unfold kyC at kz
      exact absurd ⟨(Prod.mk.inj kz).1, (Prod.mk.inj kz).2⟩ this
    · have e1 : CL' = ptC CL (qn, n, u + 1) := e1
      rw [e1]
      have ml : (P.map kyC).length = CL.length := by rw [List.length_map, pl]
      rw [ml] at ea
      unfold ptC
      by_cases c : CL.length < 8
      · rw [if_neg (by omega)] at ea
        have er : (P.map kyC).eraseIdx a = P.map kyC := List.ext_getElem? (fun j => by
          rw [er_get]
          split
          · rfl
          · rw [List.getElem?_eq_none (by omega), List.getElem?_eq_none (by omega)])
        rw [er, if_pos c]
        refine ⟨⟨P ++ [(qn, n, u + 1)], List.Perm.append_right _ hp, by rw [List.map_append]; rfl, List.pairwise_append.mpr ⟨hpw, List.pairwise_singleton _ _, fun s hs t ht => ?_⟩, fun z hz => ?_, List.nodup_append.mpr ⟨hnd, List.nodup_cons.mpr ⟨List.not_mem_nil, List.nodup_nil⟩, fun s hs t ht e => ?_⟩, by rw [List.length_append]; show CL.length + 1 ≤ 8; omega⟩, rfl, e2, fun z hz => ?_⟩
        · rw [List.mem_singleton.mp ht]
          have := hu s (hp.mem_iff.mp hs)
          show s.2.2 < u + 1
          omega
        · rcases List.mem_append.mp hz with h | h
          · have := hu z h; omega
          · rw [List.mem_singleton.mp h]; exact Nat.le_refl _
        · rw [e, List.mem_singleton.mp ht] at hs
          exact hn hs
        · rcases List.mem_append.mp hz with h | h
          · exact Or.inl h
          · rw [List.mem_singleton.mp h]; exact Or.inr ⟨rfl, rfl⟩
      · have l8 : CL.length = 8 := by omega
        rw [if_pos l8] at ea
        subst ea
        rw [if_neg c]
        have ef : frC CL = olC CL 7 := if_neg c
        have fl := frC_lt CL
        obtain ⟨x0, hx0⟩ := get_ex (l := CL) (k := frC CL) (by omega)
        obtain ⟨z0, hz0⟩ := get_ex (l := P) (k := 0) (by omega)
        have e0 : z0 = x0 := by
          obtain ⟨j, hj⟩ := List.mem_iff_getElem?.mp (hp.mem_iff.mpr (List.mem_of_getElem? hx0))
          by_cases cj : j = 0
          · rw [cj, hz0] at hj; exact Option.some.inj hj
          · exfalso
            have lt : z0.2.2 < x0.2.2 := by
              have l1 := get_lt hz0
              have l2 := get_lt hj
              have := (List.pairwise_iff_getElem.mp hpw) 0 j l1 l2 (by omega)
              rw [Option.some.inj ((List.getElem?_eq_getElem l1).symm.trans hz0), Option.some.inj ((List.getElem?_eq_getElem l2).symm.trans hj)] at this
              exact this
            obtain ⟨q, hq⟩ := List.mem_iff_getElem?.mp (hp.mem_iff.mp (List.mem_of_getElem? hz0))
            have mn := olC_min CL 7 q (by have := get_lt hq; omega)
            rw [← ef, List.getD_eq_getElem?_getD, List.getD_eq_getElem?_getD, hx0, hq] at mn
            have mn : x0.2.2 ≤ z0.2.2 := mn
            omega
        subst e0
        have r := cRL_mv (y := (qn, n)) hp hx0 hz0 hpw hu hnd h8 (fun hin => hn ((List.eraseIdx_sublist _ _).subset hin))
        refine ⟨r, rfl, e2, fun z hz => ?_⟩
        rcases List.mem_or_eq_of_mem_set hz with h | h
        · exact Or.inl h
        · rw [h]; exact Or.inr ⟨rfl, rfl⟩
theorem caR_tkR {qn u tk : Nat} {ids : List Nat} {CL : List (Nat × Nat × Nat)} {R : List (Nat × Nat)} (h : cRL CL u R) : ∀ (k : Nat) (c : List (Nat × Nat × Nat) × Nat × Nat) (r : List (Nat × Nat) × Nat), caR qn ids k (CL, u, tk) c → tkR qn ids k (R, tk) r → cRL c.1 c.2.1 r.1 ∧ c.2.2 = r.2 ∧ c.2.1 = u + k ∧ ∀ x, x ∈ c.1 → x ∈ CL ∨ (x.1 = qn ∧ x.2.1 ∈ ids)
  | 0, c, r, hc, hr => by
    have hc : c = (CL, u, tk) := hc
    have hr : r = (R, tk) := hr
    subst hc hr
    exact ⟨h, rfl, rfl, fun x hx => Or.inl hx⟩
  | k + 1, c, r, hc, hr => by
    obtain ⟨c1, hc1, n, hn, hs⟩ := hc
    obtain ⟨r1, hr1, n', b, hn', ht, e⟩ := hr
    rw [hn] at hn'
    obtain rfl := Option.some.inj hn'
    obtain ⟨a1, a2, a3, a4⟩ := caR_tkR h k c1 r1 hc1 hr1
    obtain ⟨C1, u1, t1⟩ := c1
    obtain ⟨C2, u2, t2⟩ := c
    obtain ⟨b1, b2, b3, b4⟩ := cRL_step a1 hs ht
    have a2 : t1 = r1.2 := a2
    have a3 : u1 = u + k := a3
    refine ⟨b1, ?_, ?_, fun x hx => ?_⟩
    · show t2 = r.2
      rw [b3, e, a2]
    · show u2 = u + (k + 1)
      omega
    · rcases b4 x hx with h | ⟨h1, h2⟩
      · exact a4 x h
      · exact Or.inr ⟨h1, by rw [h2]; exact List.mem_of_getElem? hn⟩
