/-! plain questions: what the law counted is what the class answers -/
section LZY
variable {S : cS} {dp mc ms cd dd y key cat x r s z q e dn made : Nat} {tt : Int32} {E : Nat → Nat} {sl : Nat → List Nat} {v : Vw} {M : List Nat}
theorem fndJ_ext {f g : Nat → Bool} {n : Nat} : ∀ {k : Nat}, (∀ j, j < k → f j = g j) → fndJ f n k = fndJ g n k
  | 0, _ => rfl
  | k + 1, h => by rw [fndJ, fndJ, fndJ_ext (k := k) (fun j hj => h j (by omega)), h k (by omega)]
/-- the documents that match -/
theorem mt_eq (hy : y < 9) (h10 : ∀ n, n ∈ v.1 → (sl n).length ≤ 10) {e : Nat × (Nat → Nd)} (he : qs6[y]? = some e) : mtQ (sgR sl) v e = mtL (sgR sl) (fQ sl v (gaN sl v) y) v.1 := by
  unfold mtQ mtL
  rw [List.flatMap_def, List.flatMap_def]
  congr 1
  refine List.map_congr_left (fun n hn => fndJ_ext (fun j hj => ?_))
  rw [sgR_len] at hj
  obtain ⟨a, ha⟩ : ∃ a, (sl n)[j]? = some a := ⟨_, List.getElem?_eq_getElem hj⟩
  have hv := vl_y hy h10 he ha
  have hs : mtB e (sgR sl n) j = (vlN e.2 e.1 3 1 (rrL e.2 e.1 (sgR sl) v.2 v.1) (sgR sl n) j).isSome := vl_some.symm
  have ga : (sl n).getD j 0 = a := by rw [List.getD_eq_getElem?_getD, ha]; rfl
  show (v.2 n j && mtB e (sgR sl n) j) = fQ sl v (gaN sl v) y n j
  unfold fQ
  rw [hs, hv, ga]
  unfold opN
  refine congrArg (fun w => v.2 n j && w) ?_
  by_cases c : rkN (gaN sl v) a y = 0
  · rw [if_pos c, c]; rfl
  · rw [if_neg c, decide_eq_true (Nat.pos_of_ne_zero c)]; rfl
/-- an element of the list of matches -/
theorem mf_in {f : Nat → Nat → Bool} {n j : Nat} (h : (n, j) ∈ mtL (sgR sl) f v.1) : n ∈ v.1 ∧ f n j = true ∧ j < (sl n).length := by
  obtain ⟨n', hn', h2⟩ := List.mem_flatMap.mp h
  have gen : ∀ k, (n, j) ∈ fndJ (f n') n' k → n = n' ∧ f n' j = true ∧ j < k := by
    intro k
    induction k with
    | zero => exact fun h => absurd h List.not_mem_nil
    | succ k ih =>
      intro h
      rw [fndJ] at h
      rcases List.mem_append.mp h with h | h
      · obtain ⟨a1, a2, a3⟩ := ih h
        exact ⟨a1, a2, by omega⟩
      · split at h
        · rename_i hk
          have := List.mem_singleton.mp h
          obtain ⟨rfl, rfl⟩ := Prod.mk.inj this
          exact ⟨rfl, hk, by omega⟩
        · exact absurd h List.not_mem_nil
  obtain ⟨rfl, b1, b2⟩ := gen _ h2
  rw [sgR_len] at b2
  exact ⟨hn', b1, b2⟩
theorem getD_dc {n j : Nat} (h : j < (sl n).length) (d0 : Dc) : (sgR sl n).getD j d0 = dcR ((sl n).getD j 0) := by
  have e := List.getElem?_eq_getElem h
  have e2 : (sgR sl n)[j]? = some (dcR ((sl n).getD j 0)) := sgR_get.mpr ⟨(sl n).getD j 0, by rw [List.getD_eq_getElem?_getD, e]; rfl, rfl⟩
  rw [List.getD_eq_getElem?_getD, e2]
  rfl
theorem dc_map {f : Nat → Nat → Bool} (d0 : Dc) : (mtL (sgR sl) f v.1).map (fun w => (sgR sl w.1).getD w.2 d0) = (nlM sl (mtL (sgR sl) f v.1)).map dcR := by
  unfold nlM
  rw [List.map_map]
  refine List.map_congr_left (fun w hw => ?_)
  exact getD_dc (mf_in hw).2.2 d0
theorem fac_eq (M : List Nat) : sumL (fun d => if dC d = cat then 1 else 0) (M.map dcR) = plO cat M := by
  unfold plO
  induction M with
  | nil => rfl
  | cons a M ih =>
    show (if dC (dcR a) = cat then 1 else 0) + sumL _ (M.map dcR) = (if dgt a 11 = cat then 1 else 0) + sumL _ M
    rw [ih]
    rfl
theorem plRk_no (h : ∀ a, a ∈ M → a % 16 ≠ key) : plRk E y key M = -1 := by
  have gen : ∀ (l : List Nat) (r : Int32), (∀ a, a ∈ l → a % 16 ≠ key) → l.foldl (fun r a => if a % 16 = key then nI (rkN E a y) else r) r = r := by
    intro l
    induction l with
    | nil => exact fun _ _ => rfl
    | cons a l ih =>
      intro r hl
      show l.foldl _ (if a % 16 = key then _ else r) = r
      rw [if_neg (hl a (by simp))]
      exact ih r (fun b hb => hl b (List.mem_cons_of_mem _ hb))
  exact gen M _ h
theorem plRk_yes {a : Nat} (hin : a ∈ M) (hk : a % 16 = key) (hu : ∀ b, b ∈ M → b % 16 = key → b = a) : plRk E y key M = nI (rkN E a y) := by
  have gen : ∀ (l : List Nat) (r : Int32), (∀ b, b ∈ l → b % 16 = key → b = a) → (r = nI (rkN E a y) ∨ a ∈ l) → l.foldl (fun r a => if a % 16 = key then nI (rkN E a y) else r) r = nI (rkN E a y) := by
    intro l
    induction l with
    | nil => exact fun r _ h => h.elim id (fun z => absurd z List.not_mem_nil)
    | cons b l ih =>
      intro r hl hr
      show l.foldl _ (if b % 16 = key then nI (rkN E b y) else r) = _
      refine ih _ (fun c hc => hl c (List.mem_cons_of_mem _ hc)) ?_
      by_cases c : b % 16 = key
      · rw [if_pos c, hl b (by simp) c]
        exact Or.inl rfl
      · rw [if_neg c]
        rcases hr with z | z
        · exact Or.inl z
        · rcases List.mem_cons.mp z with z | z
          · rw [z] at hk
            exact absurd hk c
          · exact Or.inr z
  exact gen M _ hu (Or.inr hin)
/-- the first of the least numbers -/
theorem plL_min (h : M ≠ []) : ∃ i a : Nat, M[i]? = some a ∧ plL M = some (a / 16 ^ 12, a % 16) ∧ (∀ j b : Nat, M[j]? = some b → a / 16 ^ 12 ≤ b / 16 ^ 12) ∧ ∀ j b : Nat, j < i → M[j]? = some b → a / 16 ^ 12 < b / 16 ^ 12 := by
  have gen : ∀ (l pre : List Nat) (i a : Nat), (pre ++ l) = M → pre[i]? = some a → plL pre = some (a / 16 ^ 12, a % 16) → (∀ j b : Nat, pre[j]? = some b → a / 16 ^ 12 ≤ b / 16 ^ 12) → (∀ j b : Nat, j < i → pre[j]? = some b → a / 16 ^ 12 < b / 16 ^ 12) → ∃ i a : Nat, M[i]? = some a ∧ plL M = some (a / 16 ^ 12, a % 16) ∧ (∀ j b : Nat, M[j]? = some b → a / 16 ^ 12 ≤ b / 16 ^ 12) ∧ ∀ j b : Nat, j < i → M[j]? = some b → a / 16 ^ 12 < b / 16 ^ 12 := by
    intro l
    induction l with
    | nil =>
      intro pre i a e h1 h2 h3 h4
      rw [List.append_nil] at e
      subst e
      exact ⟨i, a, h1, h2, h3, h4⟩
    | cons c l ih =>
      intro pre i a e h1 h2 h3 h4
      have e' : (pre ++ [c]) ++ l = M := by rw [List.append_assoc]; exact e
      have hp : plL (pre ++ [c]) = plS (plL pre) c := by unfold plL; rw [List.foldl_append]; rfl
      have gt : ∀ j b : Nat, (pre ++ [c])[j]? = some b → pre[j]? = some b ∨ (j = pre.length ∧ b = c) := fun j b hb => app1_get.mp hb
      by_cases hc : c / 16 ^ 12 < a / 16 ^ 12
      · refine ih (pre ++ [c]) pre.length c e' (by rw [List.getElem?_concat_length]) (by rw [hp, h2]; unfold plS; dsimp only; rw [if_pos hc]) (fun j b hb => ?_) (fun j b hj hb => ?_)
        · rcases gt j b hb with z | ⟨-, z⟩
          · have := h3 j b z; omega
          · rw [z]; exact Nat.le_refl _
        · rcases gt j b hb with z | ⟨z, -⟩
          · have := h3 j b z; omega
          · omega
      · refine ih (pre ++ [c]) i a e' (by rw [List.getElem?_append_left (get_lt h1)]; exact h1) (by rw [hp, h2]; unfold plS; dsimp only; rw [if_neg hc]) (fun j b hb => ?_) (fun j b hj hb => ?_)
        · rcases gt j b hb with z | ⟨-, z⟩
          · exact h3 j b z
          · rw [z]; omega
        · rcases gt j b hb with z | ⟨z, -⟩
          · exact h4 j b hj z
          · have := get_lt h1; omega
  cases hM : M with
  | nil => exact absurd hM h
  | cons a l =>
    rw [← hM]
    refine gen l [a] 0 a (by rw [hM]; rfl) rfl rfl (fun j b hb => ?_) (fun j b hj => absurd hj (Nat.not_lt_zero j))
    have := get_lt hb
    have this : j < 1 := this
    obtain rfl : j = 0 := by omega
    have hb : some a = some b := hb
    rw [Option.some.inj hb]
    exact Nat.le_refl _
/-- the class's first by number -/
theorem sp_min {i a : Nat} (hi : M[i]? = some a) (h1 : ∀ j b : Nat, M[j]? = some b → a / 16 ^ 12 ≤ b / 16 ^ 12) (h2 : ∀ j b : Nat, j < i → M[j]? = some b → a / 16 ^ 12 < b / 16 ^ 12) {k c : Nat} (hk : M[k]? = some c) (hz : splN (dnO (M.map dcR)) false M.length k = 0) : c % 16 = a % 16 := by
  have dn : ∀ j b : Nat, M[j]? = some b → dnO (M.map dcR) j = b / 16 ^ 12 := fun j b hb => by
    unfold dnO
    rw [List.getD_eq_getElem?_getD, List.getElem?_map, hb]
    rfl
  have none_ : ∀ j b : Nat, M[j]? = some b → gaB false (b / 16 ^ 12) (c / 16 ^ 12) j k = false := fun j b hb => by
    cases e : gaB false (b / 16 ^ 12) (c / 16 ^ 12) j k with
    | false => rfl
    | true =>
      have := cnt_pos (f := fun j => gaB false (dnO (M.map dcR) j) (dnO (M.map dcR) k) j k) (get_lt hb) (by show gaB false (dnO (M.map dcR) j) (dnO (M.map dcR) k) j k = true; rw [dn j b hb, dn k c hk]; exact e)
      unfold splN at hz
      omega
  have h3 := none_ i a hi
  have h4 := h1 k c hk
  unfold gaB at h3
  simp only [Bool.false_eq_true, if_false, Bool.or_eq_false_iff, Bool.and_eq_false_iff, decide_eq_false_iff_not] at h3
  have e1 : a / 16 ^ 12 = c / 16 ^ 12 := by omega
  have e2 : ¬ i < k := by
    rcases h3.2 with z | z
    · exact absurd e1 z
    · exact z
  rcases Nat.lt_or_ge k i with c' | c'
  · have := h2 k c c' hk
    omega
  · obtain rfl : i = k := by omega
    rw [hi] at hk
    cases hk
    rfl
end LZY
