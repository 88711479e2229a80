/-! a text's tokens are few and rise -/
theorem nd_len {α : Type} [DecidableEq α] : ∀ {l m : List α}, l.Nodup → (∀ x, x ∈ l → x ∈ m) → l.length ≤ m.length
  | [], _, _, _ => Nat.zero_le _
  | x :: l, m, h, hs => by
    have hx := hs x (List.mem_cons_self ..)
    rw [List.nodup_cons] at h
    have := nd_len (l := l) (m := m.erase x) h.2 (fun y hy => (List.mem_erase_of_ne (a := y) (b := x) (fun e => h.1 (by rw [← e]; exact hy))).mpr (hs y (List.mem_cons_of_mem _ hy)))
    rw [List.length_erase_of_mem hx] at this
    have := List.length_pos_of_mem hx
    rw [List.length_cons]; omega
section OT
variable {F S : Nat → Int64} {yn : Nat} {stp : Int64 → Bool} {st : Nat → Int64}
theorem syL_pw {s : Int64} {p : Nat} : ∀ i : Nat, (syL F S s p i).Pairwise (fun x y => x.2 ≤ y.2 ∧ x ≠ y)
  | 0 => List.Pairwise.nil
  | i + 1 => by
    rw [syL]
    by_cases c : gvB F S i s = true
    · rw [if_pos c, List.pairwise_append]
      refine ⟨syL_pw i, List.pairwise_singleton _ _, fun x hx y hy => ?_⟩
      rw [List.mem_singleton] at hy
      obtain ⟨e, k, hk, gk, sk⟩ := (syL_mem (c := x.1) (q := x.2)).mp hx
      rw [hy]
      refine ⟨Nat.le_of_eq e, fun z => ?_⟩
      have h1 : x.1 = S i := congrArg Prod.fst z
      exact (gv_iff.mp c).2.2 ⟨k, hk, (gv_iff.mp gk).1, sk.trans h1⟩
    · rw [if_neg c, List.append_nil]; exact syL_pw i
theorem tkL_pw : ∀ n : Nat, (tkL F S yn stp st n).Pairwise (fun x y => x.2 ≤ y.2 ∧ x ≠ y)
  | 0 => List.Pairwise.nil
  | n + 1 => by
    rw [tkL]
    by_cases c : stp (st n) = true
    · rw [if_pos c, List.append_nil]; exact tkL_pw n
    · rw [if_neg c, List.pairwise_append]
      refine ⟨tkL_pw n, ?_, fun x hx y hy => ?_⟩
      · rw [List.pairwise_cons]
        refine ⟨fun y hy => ?_, syL_pw yn⟩
        obtain ⟨e, k, hk, gk, sk⟩ := (syL_mem (c := y.1) (q := y.2)).mp hy
        refine ⟨Nat.le_of_eq e.symm, fun z => ?_⟩
        have h1 : st n = y.1 := congrArg Prod.fst z
        exact (gv_iff.mp gk).2.1 (sk.trans h1.symm)
      · have h1 := tkL_pl hx
        have h2 : y.2 = n := by
          rcases List.mem_cons.mp hy with e | e
          · rw [e]
          · exact ((syL_mem (c := y.1) (q := y.2)).mp e).1
        refine ⟨by omega, fun z => ?_⟩
        rw [z, h2] at h1
        exact Nat.lt_irrefl _ h1
/-- the different codes -/
def fcL (l : List (Int64 × Nat)) : Nat → List Int64
  | 0 => []
  | t + 1 => fcL l t ++ (match l[t]? with
    | some x => if pmk x.1 (l.take t) = 0 then [x.1] else []
    | none => [])
theorem fcL_len (l : List (Int64 × Nat)) : ∀ t : Nat, (fcL l t).length = fcN l t
  | 0 => rfl
  | t + 1 => by
    rw [fcL, fcN, List.length_append, fcL_len l t]
    congr 1
    cases l[t]? with
    | none => rfl
    | some x =>
      show (if pmk x.1 (l.take t) = 0 then [x.1] else []).length = if pmk x.1 (l.take t) = 0 then 1 else 0
      split <;> rfl
theorem fcL_mem {l : List (Int64 × Nat)} {c : Int64} : ∀ {t : Nat}, c ∈ fcL l t → ∃ p, (c, p) ∈ l.take t
  | 0, h => absurd h (List.not_mem_nil)
  | t + 1, h => by
    rw [fcL, List.mem_append] at h
    rcases h with h | h
    · obtain ⟨p, hp⟩ := fcL_mem h
      refine ⟨p, ?_⟩
      rw [List.take_succ]
      exact List.mem_append_left _ hp
    · cases e : l[t]? with
      | none => rw [e] at h; exact absurd h (List.not_mem_nil)
      | some x =>
        rw [e] at h
        have h : c ∈ (if pmk x.1 (l.take t) = 0 then [x.1] else []) := h
        split at h
        · refine ⟨x.2, ?_⟩
          rw [List.take_succ, e, List.mem_singleton.mp h]
          exact List.mem_append_right _ (List.mem_singleton.mpr rfl)
        · exact absurd h (List.not_mem_nil)
theorem fcL_nd (l : List (Int64 × Nat)) : ∀ t : Nat, (fcL l t).Nodup
  | 0 => List.nodup_nil
  | t + 1 => by
    rw [fcL]
    cases e : l[t]? with
    | none => rw [List.append_nil]; exact fcL_nd l t
    | some x =>
      show (fcL l t ++ (if pmk x.1 (l.take t) = 0 then [x.1] else [])).Nodup
      split
      · rename_i h0
        rw [List.nodup_append]
        refine ⟨fcL_nd l t, List.nodup_cons.mpr ⟨List.not_mem_nil, List.nodup_nil⟩, fun a ha b hb => ?_⟩
        rw [List.mem_singleton.mp hb]
        intro z
        obtain ⟨p, hp⟩ := fcL_mem ha
        exact pmk_0.mp h0 p (z ▸ hp)
      · rw [List.append_nil]; exact fcL_nd l t
theorem tk_ok {n : Nat} (hn : n ≤ 20) (hy : yn ≤ 10) : okT (tkL F S yn stp st n) ∧ fcN (tkL F S yn stp st n) (tkL F S yn stp st n).length ≤ 30 := by
  have hl := tkL_len (F := F) (S := S) (yn := yn) (stp := stp) (st := st) n
  have h11 : (yn + 1) * n ≤ 11 * 20 := Nat.mul_le_mul (by omega) hn
  refine ⟨⟨by omega, fun x hx => by have := tkL_pl hx; omega, fun a b x y hab ha hb => ?_⟩, ?_⟩
  · have h1 := List.pairwise_iff_getElem.mp (tkL_pw (F := F) (S := S) (yn := yn) (stp := stp) (st := st) n) a b (get_lt ha) (get_lt hb) hab
    rw [Option.some.inj ((List.getElem?_eq_getElem (get_lt ha)).symm.trans ha), Option.some.inj ((List.getElem?_eq_getElem (get_lt hb)).symm.trans hb)] at h1
    exact h1
  · rw [← fcL_len]
    have := nd_len (fcL_nd (tkL F S yn stp st n) (tkL F S yn stp st n).length) (m := (List.range n).map st ++ (List.range yn).map S) (fun c hc => by
      obtain ⟨p, hp⟩ := fcL_mem hc
      rw [List.take_length] at hp
      obtain ⟨h1, -, h2⟩ := tkL_mem.mp hp
      rw [List.mem_append, List.mem_map, List.mem_map]
      rcases h2 with h2 | ⟨k, hk, -, h2⟩
      · exact Or.inl ⟨p, List.mem_range.mpr h1, h2.symm⟩
      · exact Or.inr ⟨k, List.mem_range.mpr hk, h2⟩)
    rw [List.length_append, List.length_map, List.length_map, List.length_range, List.length_range] at this
    omega
end OT
/-! the class: a key is looked for in the buffer, a document is deleted -/
section DK
variable {S T : cS} {ρ : Nat → Nat} {dp x : Nat} {B : List Dc}
theorem q_bufPlace {Q : Int32 → cS → Prop} {k : Int32} (hx : cA S x 11) (g : gBf S ρ dp x B) (h1 : ∀ (i : Nat) (d : Dc), B[i]? = some d → nI (dK d) = k → (∀ (j : Nat) (e : Dc), j < i → B[j]? = some e → nI (dK e) ≠ k) → Q (nI i) S) (h2 : (∀ d, d ∈ B → nI (dK d) ≠ k) → Q (-1) S) : k_X11_bufferPlaceOf Q dp x k S := by
  obtain ⟨b, bs, m, g1, g2, g3, g4, g5, g6, g7⟩ := g
  unfold k_X11_bufferPlaceOf k_X11_bufferPlaceOf_2L
  refine lfp_cnt B.length (fun i y => (∀ (j : Nat) (e : Dc), j < i → B[j]? = some e → nI (dK e) ≠ k) ∧ y = (x, k, nI i, S)) ?_ ⟨fun j e z => absurd z (Nat.not_lt_zero j), rfl⟩
  rintro P i _ hi ⟨hp, rfl⟩ ih
  show k_X11_bufferPlaceOf_2 Q dp _ x k (nI i) S
  unfold k_X11_bufferPlaceOf_2
  refine ⟨hx, b, g1, g2.1, q_lsize g2 (pk_le bs.length i (fun z => ?_) (fun z => ?_))⟩
  · refine h2 (fun d hd => ?_)
    obtain ⟨j, hj⟩ := List.getElem?_of_mem hd
    exact hp j d (by have := get_lt hj; omega) hj
  · obtain ⟨D, hD⟩ := get_ex z
    obtain ⟨d, hd⟩ := get_ex (l := B) (k := i) (by omega)
    obtain ⟨⟨d1, d2, d3, -⟩, -⟩ := g7 i D d hD hd
    refine ⟨hx, b, g1, g2.1, q_lget g2 hD ⟨d1, d1, ?_⟩⟩
    rw [d3]
    refine ⟨fun c => ?_, fun c => h1 i d hd c hp⟩
    rintro _ rfl
    rw [nI_add]
    refine ih _ (by omega) ⟨fun j e hj he => ?_, rfl⟩
    rcases Nat.lt_or_ge j i with w | w
    · exact hp j e w he
    · obtain rfl : j = i := by omega
      rw [← Option.some.inj (hd.symm.trans he)]; exact c
/-- a document with a key is deleted: from the buffer, else from the index -/
theorem g_dropKey {Q : Int32 → cS → Prop} {k : Int32} {so : Nat → Nat} {sd : Nat → List Nat} {sg : Nat → List Dc} {made V : Nat} {ids : List Nat} {lv : Nat → Nat → Bool} (hx : cA S x 11) (hρ : ρ x = 1) (g : gBf S ρ dp x B) (e355 : cr S 355 x = some V) (gs : gSegs S ρ dp so sd sg made) (gv : gVw S ρ dp so sd sg 9 10 V ids lv) (hid : ∀ n, n ∈ ids → n < made) (hnd : ids.Nodup)
    (h1 : ∀ (T : cS) (ρ' : Nat → Nat) (i : Nat) (d : Dc), fr S T ρ ρ' [7] → B[i]? = some d → nI (dK d) = k → gBf T ρ' dp x (B.eraseIdx i) → Q (bI true) T)
    (h2 : ∀ (T : cS) (n j : Nat) (d : Dc), fr S T ρ ρ [10] → (∀ d, d ∈ B → nI (dK d) ≠ k) → n ∈ ids → (sg n)[j]? = some d → lv n j = true → nI (dK d) = k → gVw T ρ dp so sd sg 9 10 V ids (fun n' i => if n' = n ∧ i = j then false else lv n' i) → Q (bI true) T)
    (h3 : (∀ d, d ∈ B → nI (dK d) ≠ k) → (∀ (n j : Nat) (d : Dc), n ∈ ids → (sg n)[j]? = some d → lv n j = true → nI (dK d) ≠ k) → Q (bI false) S) : k_X11_dropKey Q dp x k S := by
  unfold k_X11_dropKey
  refine ⟨hx, q_bufPlace hx g (fun i d hd hk hf => ?_) (fun hno => ⟨fun _ => ⟨hx, V, e355, ?_⟩, fun z => absurd rfl z⟩)⟩
  · obtain ⟨b, bs, m, g1, g2, g3, g4, g5, g6, g7⟩ := g
    have hne : ¬ nI i = (-1 : Int32) := by
      intro e
      have := nI_pos (n := i) (by have := get_lt hd; omega)
      rw [e] at this
      exact this (by decide)
    obtain ⟨D, hD⟩ := get_ex (l := bs) (k := i) (by have := get_lt hd; omega)
    refine ⟨fun e => absurd e hne, fun _ => ⟨hx, b, g1, g2.1, q_lremove g2 hD (fun T v t => ?_)⟩⟩
    have f : fr S T ρ (rtg S id ρ 7) [7] := ⟨sub_wk v.1 (fun z _ hz => by rw [g3 z hz]; decide), fun a ha _ => rtg_o ha⟩
    have hib := get_lt hd
    refine h1 T _ i d f hd hk ⟨b, _, m, (fr_cr f hx (by rw [hρ]; decide)).trans g1, t, fun z hz => ?_, g4, ?_, ?_, fun j D' d' hj hd' => ?_⟩
    · rcases v.2 z hz with w | w
      · exact (rtg_o (lsF_in g2 w)).trans (g3 z w)
      · exact rtg_n w
    · rw [List.length_eraseIdx_of_lt hib, List.length_eraseIdx_of_lt (by omega), g5]
    · rw [List.length_eraseIdx_of_lt hib]; omega
    · have key : ∀ j' : Nat, bs[j']? = some D' → B[j']? = some d' → gFz T (rtg S id ρ 7) D' d' ∧ okD d' := fun j' a b => ⟨gFz_fr f (by decide) (g7 j' D' d' a b).1, (g7 j' D' d' a b).2⟩
      rcases era_get hj with ⟨a1, a2⟩ | ⟨a1, a2⟩
      · rcases eraA_get hd' with ⟨b1, b2⟩ | ⟨b1, b2⟩
        · exact key j a2 b2
        · omega
      · rcases eraA_get hd' with ⟨b1, b2⟩ | ⟨b1, b2⟩
        · omega
        · exact key _ a2 b2
  · obtain ⟨hl, m, hs, v1, v2, v3, v4, v5, v6⟩ := gv
    refine ⟨v1.1, q_vkill v1 hnd v3 (fun T k' j n y r d hk' hy hr hd hlv hkd eT vT => ⟨⟨true, rfl⟩, ?_⟩) (fun hnone => ⟨⟨false, rfl⟩, h3 hno hnone⟩)⟩
    have ty := v6 y (List.mem_of_getElem? hy)
    have f : fr S T ρ ρ [10] := ⟨eT ▸ sub_SI (F := fun a => ρ a ∈ [10]) (by rw [ty.2 r hr]; decide), fun _ _ _ => rfl⟩
    have r65 : ∀ y, cr T 65 y = cr S 65 y := fun y => by rw [eT]; rfl
    refine h2 T n j d f hno (List.mem_of_getElem? hk') hd hlv hkd ⟨hl, m, hs, vT, v2, fun i j y z r a b c d => ?_, v4, fun z hz => ?_, fun y hy => ⟨(v6 y hy).1, fun r hr => ?_⟩⟩
    · rw [r65] at c d
      exact v3 i j y z r a b c d
    · refine v5 z ?_
      unfold lsF at hz ⊢
      rw [show cr T 385 hl = cr S 385 hl by rw [eT]; rfl] at hz; exact hz
    · rw [r65] at hr
      exact (v6 y hy).2 r hr
end DK
