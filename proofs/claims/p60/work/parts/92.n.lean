/-! the law's machine piece by piece -/
section LN6
variable {S V T : cS} {dp x made dn k key : Nat} {ar : Nat → Nat} {L A : List Nat} {sl : Nat → List Nat} {BL : List Nat} {ix : Vw} {mg : Option (Vw × Nat)} {cm pr : Option Vw} {o1 o2 : Option (Nat × Vw)} {op fi w : Nat} {cc : Option Nat} {off : Bool} {H : List (Nat × Nat)} {sk tk : Nat} {R : List (Nat × Nat)}
theorem rO_lw (g : lRow S ar) (wV : lwT S V (A.map ar)) (h : okX 15 A = true) : rO S V (ar 15) [] := fun k _ => by rw [lwI g wV 15 h]
theorem sg_w (gR : lRow S ar) (wV : lwT S V (A.map ar)) (h : (okX 0 A && okX 2 A && okX 3 A) = true) (g : lSeg S (ar 0) (ar 2) (ar 3) dn made sl) : lSeg V (ar 0) (ar 2) (ar 3) dn made sl := by
  simp only [Bool.and_eq_true] at h
  have gV := lR_w wV gR
  exact lSeg_eq (gV.1 0 (by decide)) (gV.1 2 (by decide)) (gV.1 3 (by decide)) (lwJ gR wV 0 h.1.1) (lwJ gR wV 2 h.1.2) (lwI gR wV 3 h.2) g
theorem sz_w (oV : rO S V (ar 15) L) (h0 : (!L.contains 0 && !L.contains 2) = true) (g : lSz6 S (ar 15) dn made sl BL) : lSz6 V (ar 15) dn made sl BL := by
  simp at h0
  exact ⟨⟨(oV 0 h0.1).trans g.1.1, g.1.2⟩, ⟨(oV 2 h0.2).trans g.2.1.1, g.2.1.2⟩, g.2.2⟩
theorem bf_w (gR : lRow S ar) (wV : lwT S V (A.map ar)) (h : okX 1 A = true) (oV : rO S V (ar 15) L) (h0 : (!L.contains 1) = true) (g : lBf6 S (ar 1) (ar 15) BL) : lBf6 V (ar 1) (ar 15) BL := by
  simp at h0
  exact ⟨(oV 1 h0).trans g.1, g.2.1, fun i a hi => by rw [lwJ gR wV 1 h]; exact g.2.2 i a hi⟩
theorem ix_w (gR : lRow S ar) (wV : lwT S V (A.map ar)) (h : (okX 6 A && okX 4 A) = true) (oV : rO S V (ar 15) L) (h0 : (!L.contains 3) = true) (g : lIx6 S (ar 6) (ar 4) (ar 15) made sl ix) : lIx6 V (ar 6) (ar 4) (ar 15) made sl ix := by
  simp at h0 h
  exact ⟨⟨(oV 3 h0).trans g.1.1, g.1.2⟩, fun k n hk => by rw [lwI gR wV 6 h.1]; exact g.2.1 k n hk, fun n hn => by rw [lwI gR wV 4 h.2]; exact g.2.2 n hn⟩
theorem mg_w {ids : List Nat} (gR : lRow S ar) (wV : lwT S V (A.map ar)) (h : okX 13 A = true) (oV : rO S V (ar 15) L) (h0 : (!L.contains 9 && !L.contains 10 && !L.contains 11 && !L.contains 12) = true) (g : lMg6 S (ar 13) (ar 15) sl ids mg) : lMg6 V (ar 13) (ar 15) sl ids mg := by
  simp at h0
  refine ⟨(oV 9 h0.1.1.1).trans g.1, fun s c e => ?_⟩
  obtain ⟨⟨p, e1, e2, e3⟩, e4, e5, e6, e7, e8⟩ := g.2 s c e
  exact ⟨⟨p, (oV 10 h0.1.1.2).trans e1, e2, e3⟩, (oV 11 h0.1.2).trans e4, (oV 12 h0.2).trans e5, e6, e7, fun i z hz => by rw [lwI gR wV 13 h]; exact e8 i z hz⟩
theorem of_w {fl : Nat} {v : Vw} (i : Nat) (hi : i < 16) (h64 : lK i = 14 ∧ lLn i = 64) (gR : lRow S ar) (wV : lwT S V (A.map ar)) (h : okX i A = true) (g : lOf S (ar i) made sl fl v) : lOf V (ar i) made sl fl v := lOf_eq (by have := (lR_w wV gR).1 i hi; rw [h64.1, h64.2] at this; exact this) (lwI gR wV i h) g
theorem wr_w {ids : List Nat} (gR : lRow S ar) (wV : lwT S V (A.map ar)) (h : (okX 5 A && okX 14 A) = true) (g : lWr6 S (ar 5) (ar 14) sl ids cm pr) : lWr6 V (ar 5) (ar 14) sl ids cm pr := by
  simp only [Bool.and_eq_true] at h
  unfold lWr6
  rw [lwI gR wV 5 h.1, lwI gR wV 14 h.2]
  exact g
theorem nm_w (oV : rO S V (ar 15) L) (h0 : (!L.contains 4 && !L.contains 5 && !L.contains 6 && !L.contains 7 && !L.contains 8) = true) (g : lNm6 S (ar 15) w fi op cc off) : lNm6 V (ar 15) w fi op cc off := by
  simp at h0
  exact ⟨(oV 4 h0.1.1.1.1).trans g.1, fun e => (oV 5 h0.1.1.1.2).trans (g.2.1 e), (oV 6 h0.1.1.2).trans g.2.2.1, (oV 7 h0.1.2).trans g.2.2.2.1, (oV 8 h0.2).trans g.2.2.2.2⟩
theorem fi_w (gR : lRow S ar) (wV : lwT S V (A.map ar)) (h : (okX 11 A && okX 12 A) = true) (oV : rO S V (ar 15) L) (h0 : (!L.contains 13 && !L.contains 14 && !L.contains 15 && !L.contains 16) = true) (g : lFi6 S (ar 11) (ar 12) (ar 15) H sk tk R) : lFi6 V (ar 11) (ar 12) (ar 15) H sk tk R := by
  simp at h0 h
  obtain ⟨⟨g1, g2, g3⟩, g4, g5, g6, g7, g8⟩ := g
  refine ⟨⟨(oV 14 h0.1.1.2).trans g1, g2, ?_⟩, (oV 15 h0.1.2).trans g4, (oV 16 h0.2).trans g5, (oV 13 h0.1.1.1).trans g6, g7, ?_⟩
  · rw [lwI gR wV 12 h.2]; exact g3
  · rw [lwI gR wV 11 h.1]; exact g8
/-- a key in the buffer is alone -/
theorem flt_er {p : Nat → Bool} : ∀ {l : List Nat} {i a : Nat}, l[i]? = some a → p a = false → (∀ j b, l[j]? = some b → j ≠ i → p b = true) → l.filter p = l.eraseIdx i
  | [], i, a, h, _, _ => by simp at h
  | c :: l, 0, a, h, hp, hj => by
    simp only [List.getElem?_cons_zero, Option.some.injEq] at h
    rw [List.filter_cons_of_neg (by rw [h, hp]; simp), List.eraseIdx_cons_zero]
    exact List.filter_eq_self.mpr (fun b hb => by
      obtain ⟨j, hj2⟩ := List.mem_iff_getElem?.mp hb
      exact hj (j + 1) b (by simpa using hj2) (by omega))
  | c :: l, i + 1, a, h, hp, hj => by
    rw [List.filter_cons_of_pos (hj 0 c rfl (by omega)), List.eraseIdx_cons_succ, flt_er (i := i) (by simpa using h) hp (fun j b hb hne => hj (j + 1) b (by simpa using hb) (by omega))]
theorem map_er {f : Nat → Dc} : ∀ (l : List Nat) (i : Nat), (l.map f).eraseIdx i = (l.eraseIdx i).map f
  | [], i => rfl
  | c :: l, 0 => rfl
  | c :: l, i + 1 => by simp only [List.map_cons, List.eraseIdx_cons_succ, map_er l i]
theorem cnt_pos {f : Nat → Bool} : ∀ {n j : Nat}, j < n → f j = true → 0 < cntB f n
  | n + 1, j, h, e => by
    show 0 < cntB f n + _
    by_cases c : j = n
    · subst c
      rw [e]; simp
    · have := cnt_pos (f := f) (n := n) (j := j) (by omega) e
      omega
theorem sumL_pos {F : Nat → Nat} : ∀ {l : List Nat} {n : Nat}, n ∈ l → 0 < F n → 0 < sumL F l
  | a :: l, n, h, e => by
    show 0 < F a + sumL F l
    rcases List.mem_cons.mp h with rfl | h
    · omega
    · have := sumL_pos (l := l) h e
      omega
theorem sumL_nul {F : Nat → Nat} : ∀ {l : List Nat}, (∀ n, n ∈ l → F n = 0) → sumL F l = 0
  | [], _ => rfl
  | a :: l, h => by
    show F a + sumL F l = 0
    rw [h a (by simp), sumL_nul (fun n hn => h n (List.mem_cons_of_mem _ hn))]
theorem bN_ext2 {f g : Nat → Bool} {n : Nat} (h : ∀ j, j < n → f j = g j) : bN f n = bN g n := bN_ext h
/-- what the law deletes is what the class deletes -/
theorem dk_law {B' : List Dc} {lv' : Nat → Nat → Bool} {b : Bool} (hk : key < 100) (hub : ∀ (i i' : Nat) (d d' : Dc), (BL.map dcR)[i]? = some d → (BL.map dcR)[i']? = some d' → dK d = dK d' → i = i') (hux : ∀ d, d ∈ BL.map dcR → ∀ (n j : Nat) (d' : Dc), n ∈ ix.1 → (sgR sl n)[j]? = some d' → ix.2 n j = true → dK d' ≠ dK d) (hu : oneK (sgR sl) ix.1 ix.2 key) (h : dkR (sgR sl) ix.1 (nI key) (BL.map dcR) ix.2 B' lv' b) : B' = (bfK BL key).map dcR ∧ (∀ n, n ∈ ix.1 → bN (lvK sl ix.2 key n) (sl n).length = bN (lv' n) (sl n).length) ∧ b = decide (0 < BL.length - (bfK BL key).length + klS sl ix.2 key ix.1) := by
  have get : ∀ {n j : Nat}, j < (sl n).length → (sgR sl n)[j]? = some (dcR ((sl n).getD j 0)) := fun {n j} hj => sgR_get.mpr ⟨_, by rw [List.getD_eq_getElem?_getD, List.getElem?_eq_getElem hj]; rfl, rfl⟩
  have key_lt : ∀ a : Nat, a % 16 < 100 := fun a => by omega
  have bget : ∀ {i a : Nat}, BL[i]? = some a → (BL.map dcR)[i]? = some (dcR a) := fun {i a} e => by rw [List.getElem?_map, e]; rfl
  rcases h with ⟨i, d, hi, e, rfl, rfl, rfl⟩ | ⟨hno, rfl, ⟨n, j, d, hn, hj, hl, e, rfl, rfl⟩ | ⟨hno2, rfl, rfl⟩⟩
  · rw [List.getElem?_map] at hi
    obtain ⟨a, ha, rfl⟩ := Option.map_eq_some_iff.mp hi
    have ea : a % 16 = key := (nI_eq (by have := key_lt a; omega) (by omega)).mp e
    have hf : bfK BL key = BL.eraseIdx i := flt_er ha (by rw [ea]; simp) (fun j c hc hne => by
      simp only [decide_eq_true_eq]
      intro e2
      exact hne (hub j i _ _ (bget hc) (bget ha) (by rw [dK_R, dK_R, e2, ea])))
    have hkl : ∀ n, n ∈ ix.1 → ∀ j, j < (sl n).length → klB sl ix.2 key n j = false := fun n hn j hj => by
      unfold klB
      cases c : ix.2 n j with
      | false => rfl
      | true =>
        have := hux (dcR a) (List.mem_map.mpr ⟨a, List.mem_of_getElem? ha, rfl⟩) n j _ hn (get hj) c
        rw [dK_R, dK_R, ea] at this
        show (true && decide (_ = key)) = false; rw [decide_eq_false this]; rfl
    refine ⟨by rw [hf, map_er], fun n hn => bN_ext (fun j hj => by rw [lvK_not, hkl n hn j hj]; simp), ?_⟩
    have hlt := get_lt ha
    rw [hf, List.length_eraseIdx_of_lt hlt]
    symm
    rw [decide_eq_true_eq]
    omega
  · have hf : bfK BL key = BL := List.filter_eq_self.mpr (fun a ha => by
      simp only [decide_eq_true_eq]
      intro e2
      exact hno (dcR a) (List.mem_map.mpr ⟨a, ha, rfl⟩) (by rw [dK_R, e2]))
    obtain ⟨a, ha, rfl⟩ := sgR_get.mp hj
    have hjl := get_lt ha
    have ga : (sl n).getD j 0 = a := by rw [List.getD_eq_getElem?_getD, ha]; rfl
    have ea : a % 16 = key := (nI_eq (by have := key_lt a; omega) (by omega)).mp e
    refine ⟨by rw [hf], fun n' hn' => bN_ext (fun j' hj' => ?_), ?_⟩
    · show lvK sl ix.2 key n' j' = if n' = n ∧ j' = j then false else ix.2 n' j'
      unfold lvK
      by_cases c : n' = n ∧ j' = j
      · obtain ⟨rfl, rfl⟩ := c
        rw [if_pos ⟨rfl, rfl⟩, ga, ea]
        simp
      · rw [if_neg c]
        cases c2 : ix.2 n' j' with
        | false => rfl
        | true =>
          by_cases c3 : (sl n').getD j' 0 % 16 = key
          · exact absurd (hu n' j' _ n j _ hn' hn (get hj') hj c2 hl (by rw [dK_R, c3]) (by rw [dK_R, ea])) c
          · simp only [c3, decide_false, Bool.not_false, Bool.and_true]
    · symm
      rw [decide_eq_true_eq]
      have : 0 < klS sl ix.2 key ix.1 := sumL_pos hn (cnt_pos hjl (by unfold klB; rw [hl, ga, ea]; simp))
      omega
  · have hf : bfK BL key = BL := List.filter_eq_self.mpr (fun a ha => by
      simp only [decide_eq_true_eq]
      intro e2
      exact hno (dcR a) (List.mem_map.mpr ⟨a, ha, rfl⟩) (by rw [dK_R, e2]))
    have hkl : ∀ n, n ∈ ix.1 → ∀ j, j < (sl n).length → klB sl ix.2 key n j = false := fun n hn j hj => by
      unfold klB
      cases c : ix.2 n j with
      | false => rfl
      | true =>
        by_cases c3 : (sl n).getD j 0 % 16 = key
        · exact absurd (by rw [dK_R, c3]) (hno2 n j _ hn (get hj) c)
        · show (true && decide (_ = key)) = false; rw [decide_eq_false c3]; rfl
    refine ⟨by rw [hf], fun n hn => bN_ext (fun j hj => by rw [lvK_not, hkl n hn j hj]; simp), ?_⟩
    symm
    rw [decide_eq_false_iff_not, hf]
    have : klS sl ix.2 key ix.1 = 0 := sumL_nul (fun n hn => cntB_zero (hkl n hn))
    omega
end LN6
