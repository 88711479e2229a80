/-! both worlds together: a commit is prepared -/
def flC (B : List Dc) : Nat := if B.length = 0 then 0 else B.length + 1
theorem pr5 {a a' : Nat} {b b' : Nat → List Dc} {c c' : Vw} {d d' : Nat} {e e' : Option Nat} (h : (a, b, c, d, e) = (a', b', c', d', e')) : a = a' ∧ b = b' ∧ c = c' ∧ d = d' ∧ e = e' := by
  cases h
  exact ⟨rfl, rfl, rfl, rfl, rfl⟩
section FLP
variable {made made' : Nat} {sg sg' : Nat → List Dc} {B : List Dc} {ix ix' : Vw} {w w' : Nat} {cc cc' : Option Nat}
theorem flS_cc (e : flS made sg B ix w cc = (made', sg', ix', w', cc')) : cc' = cc.map (fun k => k - flC B) ∧ w' = w + flC B := by
  cases B with
  | nil =>
    obtain ⟨-, -, -, rfl, rfl⟩ := pr5 (show (made, sg, ix, w, cc) = _ from e)
    exact ⟨by cases cc <;> rfl, rfl⟩
  | cons d B =>
    obtain ⟨-, -, -, rfl, rfl⟩ := pr5 (show (made + 1, upR sg made (d :: B), (ix.1 ++ [made], fun n j => if n = made then true else ix.2 n j), w + ((d :: B).length + 1), cc.map (fun k => k - ((d :: B).length + 1))) = _ from e)
    exact ⟨rfl, rfl⟩
theorem flC_n (h : B ≠ []) : flC B = B.length + 1 := if_neg (fun e => h (List.eq_nil_of_length_eq_zero e))
/-- what is in a flushed index -/
theorem flS_ok (e : flS made sg B ix w cc = (made', sg', ix', w', cc')) (hM : vwM made ix) (v : vG sg ix) (p6 : (∀ (i i' : Nat) (d d' : Dc), B[i]? = some d → B[i']? = some d' → dK d = dK d' → i = i') ∧ ∀ d, d ∈ B → ∀ (n j : Nat) (d' : Dc), n ∈ ix.1 → (sg n)[j]? = some d' → ix.2 n j = true → dK d' ≠ dK d) (h2 : made < 200 ∨ B = []) (h201 : made ≤ 201) : (made ≤ made' ∧ made' ≤ 201 ∧ (made ≤ 200 → made' ≤ 200)) ∧ (∀ n, n < made → sg' n = sg n) ∧ vwM made' ix' ∧ vG sg' ix' ∧ (∀ n, n < made' → ∀ d, d ∈ sg' n → d ∈ B ∨ ∃ n', n' < made ∧ d ∈ sg n') ∧ smN (fun n => (sg' n).length) made' = smN (fun n => (sg n).length) made + B.length ∧ (∀ (a n : Nat), ix.1[a]? = some n → ix'.1[a]? = some n) ∧ (∀ n, n ∈ ix'.1 → n ∈ ix.1 ∨ n = made) := by
  cases B with
  | nil =>
    obtain ⟨rfl, rfl, rfl, -, -⟩ := pr5 (show (made, sg, ix, w, cc) = _ from e)
    exact ⟨⟨Nat.le_refl _, h201, id⟩, fun _ _ => rfl, hM, v, fun n hn d hd => Or.inr ⟨n, hn, hd⟩, rfl, fun _ _ h => h, fun n hn => Or.inl hn⟩
  | cons d0 B0 =>
    obtain ⟨B, hB⟩ : ∃ B, B = d0 :: B0 := ⟨_, rfl⟩
    have e := (show (made + 1, upR sg made (d0 :: B0), (ix.1 ++ [made], fun n j => if n = made then true else ix.2 n j), w + ((d0 :: B0).length + 1), cc.map (fun k => k - ((d0 :: B0).length + 1))) = _ from e)
    have h200 : made < 200 := h2.elim id (fun c => absurd c (by simp))
    rw [← hB] at e p6 ⊢
    obtain ⟨rfl, rfl, rfl, -, -⟩ := pr5 e
    have sgo : ∀ n, n < made → upR sg made B n = sg n := fun n hn => upR_n (by omega)
    have sB : upR sg made B made = B := upR_s
    refine ⟨⟨by omega, by omega, by omega⟩, sgo, fun n hn => ?_, ⟨?_, fun key n j d n' j' d' h1 h2 h3 h4 h5 h6 h7 h8 => ?_⟩, fun n hn d hd => ?_, ?_, fun a n h => ?_, fun n hn => ?_⟩
    · rcases List.mem_append.mp hn with h | h
      · have := hM n h; omega
      · rw [List.mem_singleton.mp h]; omega
    · refine List.nodup_append.mpr ⟨v.1, List.nodup_cons.mpr ⟨List.not_mem_nil, List.nodup_nil⟩, fun a ha b hb e => ?_⟩
      have := hM a ha
      rw [e, List.mem_singleton.mp hb] at this
      omega
    · have h5 : (if n = made then true else ix.2 n j) = true := h5
      have h6 : (if n' = made then true else ix.2 n' j') = true := h6
      rcases List.mem_append.mp h1 with h1 | h1 <;> rcases List.mem_append.mp h2 with h2 | h2
      · have := hM n h1
        have := hM n' h2
        rw [sgo n (by omega)] at h3
        rw [sgo n' (by omega)] at h4
        rw [if_neg (by omega)] at h5 h6
        exact v.2 key n j d n' j' d' h1 h2 h3 h4 h5 h6 h7 h8
      · have := hM n h1
        rw [List.mem_singleton.mp h2] at h4
        rw [sgo n (by omega)] at h3
        rw [sB] at h4
        rw [if_neg (by omega)] at h5
        exact absurd (h7.trans h8.symm) (p6.2 d' (List.mem_of_getElem? h4) n j d h1 h3 h5)
      · have := hM n' h2
        rw [List.mem_singleton.mp h1] at h3
        rw [sgo n' (by omega)] at h4
        rw [sB] at h3
        rw [if_neg (by omega)] at h6
        exact absurd (h8.trans h7.symm) (p6.2 d (List.mem_of_getElem? h3) n' j' d' h2 h4 h6)
      · rw [List.mem_singleton.mp h1] at h3 ⊢
        rw [List.mem_singleton.mp h2] at h4 ⊢
        rw [sB] at h3 h4
        exact ⟨rfl, p6.1 j j' d d' h3 h4 (h7.trans h8.symm)⟩
    · rcases Nat.lt_or_ge n made with z | z
      · rw [sgo n z] at hd
        exact Or.inr ⟨n, z, hd⟩
      · rw [show n = made by omega, sB] at hd
        exact Or.inl hd
    · rw [smN, sB]
      congr 1
      exact smN_ext (fun n hn => by rw [sgo n hn])
    · show (ix.1 ++ [made])[a]? = some n
      rw [List.getElem?_append_left (get_lt h)]; exact h
    · rcases List.mem_append.mp hn with h | h
      · exact Or.inl h
      · exact Or.inr (List.mem_singleton.mp h)
theorem wbs_lvF {cm : Option Vw} (h : made ∉ ovL cm) : lvF made (wbs cm) = wbs cm := by
  funext n j
  show (if n = made then true else wbs cm n j) = wbs cm n j
  by_cases c : n = made
  · rw [if_pos c, c]
    unfold wbs
    rw [if_neg h]
  · rw [if_neg c]
theorem all_t {f : Nat → Bool} {n : Nat} : decide (cntB f n < n) = !allB (fun j => f j == true) n := by
  have e : (fun j => f j == true) = f := by funext j; cases f j <;> rfl
  rw [e]
  have h1 := cntB_le f n
  cases c : allB f n with
  | true => rw [decide_eq_false (by have := cntB_all.mpr c; omega)]; rfl
  | false =>
    rw [decide_eq_true (by
      rcases Nat.lt_or_ge (cntB f n) n with z | z
      · exact z
      · have := cntB_all.mp (show cntB f n = n by omega)
        rw [c] at this; exact absurd this (by decide))]; rfl
theorem chB_wbs {lv : Nat → Nat → Bool} {cm : Option Vw} (n : Nat) : chB sg lv cm n = !allB (fun j => lv n j == wbs cm n j) (sg n).length := by
  cases cm with
  | none =>
    have e : (fun j => lv n j == wbs none n j) = fun j => lv n j == true := by
      funext j
      unfold wbs
      rw [if_neg (show n ∉ ovL none from List.not_mem_nil)]
    rw [e]
    show decide (cntB (lv n) (sg n).length < (sg n).length) = _
    exact all_t
  | some x =>
    show (if n ∈ x.1 then !(allB (fun j => lv n j == x.2 n j) (sg n).length) else decide (cntB (lv n) (sg n).length < (sg n).length)) = _
    by_cases c : n ∈ x.1
    · have e : (fun j => lv n j == wbs (some x) n j) = fun j => lv n j == x.2 n j := by
        funext j
        unfold wbs
        rw [if_pos (show n ∈ ovL (some x) from c)]; rfl
      rw [if_pos c, e]
    · have e : (fun j => lv n j == wbs (some x) n j) = fun j => lv n j == true := by
        funext j
        unfold wbs
        rw [if_neg (show n ∉ ovL (some x) from c)]
      rw [if_neg c, e]
      exact all_t
theorem chN_dfN {cm : Option Vw} : chN sg ix cm = dfN sg ix.2 (wbs cm) ix.1 := by
  unfold chN dfN
  congr 1
  funext n
  rw [chB_wbs]
end FLP
