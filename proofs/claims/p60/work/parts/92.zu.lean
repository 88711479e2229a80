/-! plain questions: what the law counts -/
def plO (cat : Nat) (M : List Nat) : Nat := sumL (fun a => if dgt a 11 = cat then 1 else 0) M
def plRk (E : Nat → Nat) (y key : Nat) (M : List Nat) : Int32 := M.foldl (fun r a => if a % 16 = key then nI (rkN E a y) else r) (-1)
def plS (o : Option (Nat × Nat)) (a : Nat) : Option (Nat × Nat) := match o with
  | none => some (a / 16 ^ 12, a % 16)
  | some p => if a / 16 ^ 12 < p.1 then some (a / 16 ^ 12, a % 16) else some p
def plL (M : List Nat) : Option (Nat × Nat) := M.foldl plS none
def plF (o : Option (Nat × Nat)) : Int32 := match o with
  | none => -1
  | some p => nI p.1
def plK (o : Option (Nat × Nat)) : Int32 := match o with
  | none => -1
  | some p => nI p.2
section LZW
variable {S : cS} {dp mc ms cd dd a y key cat A x r s z q e : Nat} {i n : Int32} {j t : Nat} {tt : Int32} {E : Nat → Nat} {M : List Nat} {b : Bool}
theorem lN_in {a b : Nat} (ha : a < 2 ^ 63) (hb : b < 2 ^ 63) (h : lN a = lN b) : a = b := by
  have : (lN a).toInt.toNat = (lN b).toInt.toNat := by rw [h]
  rwa [lN_nat ha, lN_nat hb] at this
theorem plL_8 (h : ∀ a, a ∈ M → a < 2 ^ 51) : ∀ p, plL M = some p → p.1 < 8 ∧ p.2 < 16 := by
  have gen : ∀ (l : List Nat) (o : Option (Nat × Nat)), (∀ a, a ∈ l → a < 2 ^ 51) → (∀ p, o = some p → p.1 < 8 ∧ p.2 < 16) → ∀ p, l.foldl plS o = some p → p.1 < 8 ∧ p.2 < 16 := by
    intro l
    induction l with
    | nil => exact fun o _ h p hp => h p hp
    | cons a l ih =>
      intro o hl ho p hp
      have ha := hl a (by simp)
      have e16 : (16 : Nat) ^ 12 = 2 ^ 48 := by decide
      have h8 : a / 16 ^ 12 < 8 ∧ a % 16 < 16 := ⟨by rw [e16]; omega, by omega⟩
      refine ih (plS o a) (fun c hc => hl c (List.mem_cons_of_mem _ hc)) (fun p' hp' => ?_) p hp
      unfold plS at hp'
      split at hp'
      · rw [← Option.some.inj hp']; exact h8
      · split at hp'
        · rw [← Option.some.inj hp']; exact h8
        · rename_i o' po _
          exact ho p' hp'
  exact gen M none h (fun p e => absurd e (by simp))
theorem rk_le (hE : ∀ l, l < 9 → E l ≤ 102) : rkN E a y ≤ 20000 := by
  have h := fun l (hl : l < 9) => giN_le (a := a) hE hl
  have h0 := h 0 (by decide)
  have h1 := h 1 (by decide)
  have h7 := h 7 (by decide)
  have h8 := h 8 (by decide)
  unfold rkN
  split
  · rename_i c
    have := h y (by omega)
    omega
  · (repeat' split) <;> omega
theorem pl_0 {Q : Int32 → cS → Prop} {R63 : Nat → Nat → Nat → Nat → Nat → Int32 → Nat → Int32 → Int32 → Int32 → Int32 → Int32 → Int32 → Int32 → Int32 → Int32 → Int32 → Nat → Nat → cS → Prop} {R84 : Nat → Nat → Nat → Nat → Nat → Int32 → Nat → Int32 → Int32 → Int32 → Int32 → Int32 → Int32 → Int32 → Int32 → Int32 → Int32 → Int32 → Int32 → Nat → Nat → cS → Prop} {al mt of fs : Int32} {l2 : Int64} {rk le : Int32} {nu : Int32} {lv : Nat} (hk : R84 x r s z q tt e (nI y) (nI key) (nI cat) (al + nI lv) (mt + nI 0) (of + nI 0) rk le fs i n (nI (j + 1)) cd dd S) : k_L_isPlain_169 Q dp mc ms R63 R84 x r s z q tt e (nI y) (nI key) (nI cat) mt of rk le fs i n (nI j) l2 (nI 0) nu (nI lv) al cd dd S := by
  unfold k_L_isPlain_169
  rintro _ rfl
  refine ⟨fun _ => ?_, fun z => absurd (by decide) z⟩
  unfold k_L_isPlain_184
  rintro _ rfl
  refine ⟨fun _ => ?_, fun z => absurd (by decide) z⟩
  unfold k_L_isPlain_214 k_L_isPlain_215
  rintro _ rfl
  refine ⟨fun _ => ?_, fun z => absurd (by decide) z⟩
  unfold k_L_isPlain_241 k_L_isPlain_243
  refine ⟨fun _ => ?_, fun z => absurd (by decide) z⟩
  unfold k_L_isPlain_272 k_L_isPlain_274
  refine ⟨fun _ => ?_, fun z => absurd (by decide) z⟩
  unfold k_L_isPlain_298 k_L_isPlain_300
  rintro _ rfl
  rw [nI_add]
  exact hk
theorem pl_1 {Q : Int32 → cS → Prop} {R63 : Nat → Nat → Nat → Nat → Nat → Int32 → Nat → Int32 → Int32 → Int32 → Int32 → Int32 → Int32 → Int32 → Int32 → Int32 → Int32 → Nat → Nat → cS → Prop} {R84 : Nat → Nat → Nat → Nat → Nat → Int32 → Nat → Int32 → Int32 → Int32 → Int32 → Int32 → Int32 → Int32 → Int32 → Int32 → Int32 → Int32 → Int32 → Nat → Nat → cS → Prop} {al mt of : Int32} {rk : Int32} {lv v nu : Nat} {o : Option (Nat × Nat)} (ha : a < 2 ^ 51) (hv : 0 < v ∧ v < 2 ^ 31) (hkey : key < 16) (hcat : cat < 16) (hnu : nu = a / 16 ^ 12) (ho : ∀ p, o = some p → p.1 < 8 ∧ p.2 < 16) (hk : R84 x r s z q tt e (nI y) (nI key) (nI cat) (al + nI lv) (mt + nI 1) (of + nI (if dgt a 11 = cat then 1 else 0)) (if a % 16 = key then nI v else rk) (plF (plS o a)) (plK (plS o a)) i n (nI (j + 1)) cd dd S) : k_L_isPlain_169 Q dp mc ms R63 R84 x r s z q tt e (nI y) (nI key) (nI cat) mt of rk (plF o) (plK o) i n (nI j) (lN a) (nI v) (nI nu) (nI lv) al cd dd S := by
  have vn : ¬ nI v ≤ 0 := fun c => by rw [nI_le0 hv.2] at c; omega
  have e44 : (jUs (lN a) (nI 44)) &&& 15 = lN (dgt a 11) := by rw [jUs_N (by omega) (by decide), lN_and15]; rfl
  have e16 : (16 : Nat) ^ 12 = 2 ^ 48 := by decide
  have nu8 : nu < 8 := by rw [hnu, e16]; omega
  have lastS : ∀ le' fs' : Int32, R84 x r s z q tt e (nI y) (nI key) (nI cat) (al + nI lv) (mt + nI 1) (of + nI (if dgt a 11 = cat then 1 else 0)) (if a % 16 = key then nI v else rk) le' fs' i n (nI (j + 1)) cd dd S → ∀ fs0, fs' = fs0 → k_L_isPlain_300 Q dp mc ms R63 R84 x r s z q tt e (nI y) (nI key) (nI cat) (al + nI lv) (mt + nI 1) (of + nI (if dgt a 11 = cat then 1 else 0)) (if a % 16 = key then nI v else rk) fs0 i n (nI j) le' cd dd S := fun le' fs' h fs0 e => by
    subst e
    unfold k_L_isPlain_300
    rintro _ rfl
    rw [nI_add]
    exact h
  have fin : k_L_isPlain_243 Q dp mc ms R63 R84 x r s z q tt e (nI y) (nI key) (nI cat) (al + nI lv) (mt + nI 1) (of + nI (if dgt a 11 = cat then 1 else 0)) (plF o) (plK o) i n (nI j) (lN a) (nI v) (nI nu) (if a % 16 = key then nI v else rk) cd dd S := by
    unfold k_L_isPlain_243
    refine ⟨fun c => absurd c vn, fun _ => ?_⟩
    cases o with
    | none =>
      have e1 : plS none a = some (nu, a % 16) := by rw [hnu]; rfl
      rw [e1] at hk
      refine ⟨fun _ => ?_, fun c => absurd (by decide) c⟩
      unfold k_L_isPlain_262 k_L_isPlain_274
      rw [lN_and15, lN_toI]
      refine ⟨fun c => absurd c vn, fun _ => ⟨fun _ => lastS _ _ hk _ rfl, fun c => absurd (by decide) c⟩⟩
    | some p =>
      have p8 := (ho p rfl).1
      have n1 : ¬ plF (some p) < 0 := nI_pos (by show p.1 < 2 ^ 31; omega)
      have le1 : plF (some p) ≤ nI nu ↔ p.1 ≤ nu := nI_leI (by omega) (by omega)
      by_cases c : nu < p.1
      · have e1 : plS (some p) a = some (nu, a % 16) := by
          unfold plS
          dsimp only
          rw [← hnu, if_pos c]
        rw [e1] at hk
        have main : k_L_isPlain_262 Q dp mc ms R63 R84 x r s z q tt e (nI y) (nI key) (nI cat) (al + nI lv) (mt + nI 1) (of + nI (if dgt a 11 = cat then 1 else 0)) (if a % 16 = key then nI v else rk) (plF (some p)) i n (nI j) (lN a) (nI v) (nI nu) cd dd S := by
          unfold k_L_isPlain_262 k_L_isPlain_274
          rw [lN_and15, lN_toI]
          refine ⟨fun c => absurd c vn, fun _ => ⟨fun c => absurd c n1, fun _ => ⟨fun z => absurd (le1.mp z) (by omega), fun _ => lastS _ _ hk _ rfl⟩⟩⟩
        exact ⟨fun _ => main, fun _ => ⟨fun z => absurd (le1.mp z) (by omega), fun _ => main⟩⟩
      · have e1 : plS (some p) a = some p := by
          unfold plS
          dsimp only
          rw [← hnu, if_neg c]
        rw [e1] at hk
        have main : k_L_isPlain_272 Q dp mc ms R63 R84 x r s z q tt e (nI y) (nI key) (nI cat) (al + nI lv) (mt + nI 1) (of + nI (if dgt a 11 = cat then 1 else 0)) (if a % 16 = key then nI v else rk) (plF (some p)) (plK (some p)) i n (nI j) (nI v) (nI nu) cd dd S := by
          unfold k_L_isPlain_272 k_L_isPlain_274
          refine ⟨fun c => absurd c vn, fun _ => ⟨fun c => absurd c n1, fun _ => ⟨fun _ => ?_, fun z => absurd (le1.mpr (by omega)) z⟩⟩⟩
          unfold k_L_isPlain_298
          exact lastS _ _ hk _ rfl
        refine ⟨fun z => ?_, fun _ => ⟨fun _ => main, fun z => absurd (le1.mpr (by omega)) z⟩⟩
        exact absurd z (nI_pos (by have := (ho p rfl).2; show p.2 < 2 ^ 31; omega))
  unfold k_L_isPlain_169
  rintro _ rfl
  refine ⟨fun c => absurd c vn, fun _ => ?_⟩
  have rank : k_L_isPlain_215 Q dp mc ms R63 R84 x r s z q tt e (nI y) (nI key) (nI cat) (al + nI lv) (mt + nI 1) rk (plF o) (plK o) i n (nI j) (lN a) (nI v) (nI nu) (nI (if dgt a 11 = cat then 1 else 0)) of cd dd S := by
    unfold k_L_isPlain_215
    rintro _ rfl
    refine ⟨fun c => absurd c vn, fun _ => ?_⟩
    rw [lN_and15, nI_toL (by omega)]
    refine ⟨fun c => ?_, fun c => ?_⟩
    · have hne : a % 16 ≠ key := fun e => c (by rw [e])
      rw [if_neg hne] at fin
      unfold k_L_isPlain_241
      exact fin
    · have heq : a % 16 = key := lN_in (by omega) (by omega) c
      rw [if_pos heq] at fin
      exact fin
  unfold k_L_isPlain_184
  rintro _ rfl
  refine ⟨fun c => absurd c vn, fun _ => ?_⟩
  rw [e44, nI_toL (by omega)]
  refine ⟨fun c => ?_, fun c => ?_⟩
  · have hne : dgt a 11 ≠ cat := fun e => c (by rw [e])
    rw [if_neg hne] at rank
    unfold k_L_isPlain_214
    exact rank
  · have heq : dgt a 11 = cat := lN_in (by have := Nat.mod_lt (a / 16 ^ 11) (show 0 < 16 by decide); show a / 16 ^ 11 % 16 < 2 ^ 63; omega) (by omega) c
    rw [if_pos heq] at rank
    exact rank
theorem pl_127 {Q : Int32 → cS → Prop} {R63 : Nat → Nat → Nat → Nat → Nat → Int32 → Nat → Int32 → Int32 → Int32 → Int32 → Int32 → Int32 → Int32 → Int32 → Int32 → Int32 → Nat → Nat → cS → Prop} {R84 : Nat → Nat → Nat → Nat → Nat → Int32 → Nat → Int32 → Int32 → Int32 → Int32 → Int32 → Int32 → Int32 → Int32 → Int32 → Int32 → Int32 → Int32 → Nat → Nat → cS → Prop} (hbd : cd ≤ mc ∧ dd ≤ ms) (g : lE S e E) (ha : a < 2 ^ 51) (hM : ∀ a, a ∈ M → a < 2 ^ 51) (hy : y < 9) (hkey : key < 16) (hcat : cat < 16) (hk : ∀ M', M' = M ++ (if (b && decide (0 < rkN E a y)) = true then [a] else []) → R84 x r s z q tt e (nI y) (nI key) (nI cat) (nI (A + (if b = true then 1 else 0))) (nI M'.length) (nI (plO cat M')) (plRk E y key M') (plF (plL M')) (plK (plL M')) i n (nI (j + 1)) cd dd S) : k_L_isPlain_127 Q dp mc ms R63 R84 x r s z q tt e (nI y) (nI key) (nI cat) (nI A) (nI M.length) (nI (plO cat M)) (plRk E y key M) (plF (plL M)) (plK (plL M)) i n (nI j) (lN a) (bI b) cd dd S := by
  have e48 : (jUs (lN a) (nI 48)).toInt32 = nI (a / 16 ^ 12) := by rw [jUs_N (by omega) (by decide), lN_toI]
  have none_ : (b && decide (0 < rkN E a y)) = false → ∀ lv, nI A + nI lv = nI (A + (if b = true then 1 else 0)) → k_L_isPlain_169 Q dp mc ms R63 R84 x r s z q tt e (nI y) (nI key) (nI cat) (nI M.length) (nI (plO cat M)) (plRk E y key M) (plF (plL M)) (plK (plL M)) i n (nI j) (lN a) (nI 0) (nI (a / 16 ^ 12)) (nI lv) (nI A) cd dd S := fun h lv e => by
    have hk' := hk M (by rw [h, if_neg (by decide), List.append_nil])
    refine pl_0 ?_
    rw [e, nI_add, nI_add, Nat.add_zero, Nat.add_zero]
    exact hk'
  unfold k_L_isPlain_127
  cases b with
  | false =>
    refine ⟨fun _ => ?_, fun c => absurd rfl c⟩
    unfold k_L_isPlain_147
    rw [e48]
    rintro _ rfl
    exact ⟨fun _ => none_ rfl 0 (by rw [nI_add]; rfl), fun c => absurd rfl c⟩
  | true =>
    refine ⟨fun c => absurd c (by decide), fun _ => ⟨hbd, q_L_rank g (by omega) hy ?_⟩⟩
    unfold k_L_isPlain_147
    rw [e48]
    rintro _ rfl
    refine ⟨fun c => absurd c (by decide), fun _ => ?_⟩
    by_cases c : rkN E a y = 0
    · rw [c]
      exact none_ (by rw [c]; rfl) 1 (by rw [nI_add]; rfl)
    · have hv : 0 < rkN E a y ∧ rkN E a y < 2 ^ 31 := ⟨Nat.pos_of_ne_zero c, Nat.lt_of_le_of_lt (rk_le (fun l hl => (g.2 l hl).2)) (by decide)⟩
      have hk' := hk (M ++ [a]) (by rw [decide_eq_true hv.1]; rfl)
      refine pl_1 ha hv hkey hcat rfl (plL_8 hM) ?_
      have h1 : (M ++ [a]).length = M.length + 1 := by rw [List.length_append]; rfl
      have h2 : plO cat (M ++ [a]) = plO cat M + (if dgt a 11 = cat then 1 else 0) := by
        unfold plO
        rw [sumL_app]
        rfl
      have h3 : plRk E y key (M ++ [a]) = if a % 16 = key then nI (rkN E a y) else plRk E y key M := by
        unfold plRk
        rw [List.foldl_append]
        rfl
      have h4 : plL (M ++ [a]) = plS (plL M) a := by
        unfold plL
        rw [List.foldl_append]
        rfl
      rw [h1, h2, h3, h4] at hk'
      rw [nI_add, nI_add, nI_add]
      exact hk'
/-- whether a document matches, by the law -/
def fQ (sl : Nat → List Nat) (v : Vw) (E : Nat → Nat) (y n j : Nat) : Bool := v.2 n j && decide (0 < rkN E ((sl n).getD j 0) y)
end LZW
section LZX
variable {S : cS} {dp mc ms cd dd y key cat A0 x r s z q e n dn made i : Nat} {tt : Int32} {E : Nat → Nat} {sl : Nat → List Nat} {v : Vw} {L0 : List (Nat × Nat)}
theorem q_pl84 {Q : Int32 → cS → Prop} {R63 : Nat → Nat → Nat → Nat → Nat → Int32 → Nat → Int32 → Int32 → Int32 → Int32 → Int32 → Int32 → Int32 → Int32 → Int32 → Int32 → Nat → Nat → cS → Prop} (hbd : cd ≤ mc ∧ dd ≤ ms) (gs : lSeg S r s z dn made sl) (gv : lVw S q made sl v) (g : lE S e E) (hn : n ∈ v.1) (hnm : n < made) (hL : ∀ a, a ∈ nlM sl L0 → a < 2 ^ 51) (hy : y < 9) (hkey : key < 16) (hcat : cat < 16) (hk : ∀ M', M' = nlM sl (L0 ++ fndJ (fQ sl v E y n) n (sl n).length) → R63 x r s z q tt e (nI y) (nI key) (nI cat) (nI (A0 + cntB (v.2 n) (sl n).length)) (nI M'.length) (nI (plO cat M')) (plRk E y key M') (plF (plL M')) (plK (plL M')) (nI (i + 1)) cd dd S) : k_L_isPlain_84L Q dp mc ms R63 x r s z q tt e (nI y) (nI key) (nI cat) (nI A0) (nI (nlM sl L0).length) (nI (plO cat (nlM sl L0))) (plRk E y key (nlM sl L0)) (plF (plL (nlM sl L0))) (plK (plL (nlM sl L0))) (nI i) (nI n) (nI 0) cd dd S := by
  obtain ⟨⟨gr, gss, gz⟩, ⟨gmd, gdn⟩, gg⟩ := id gs
  obtain ⟨ez, h10, w, hw, hjs, hd⟩ := gg n hnm
  have ev := gv.2.2.2.2 n hn
  unfold k_L_isPlain_84L
  refine lfp_cnt (sl n).length (fun j yy => ∃ M, M = nlM sl (L0 ++ fndJ (fQ sl v E y n) n j) ∧ (∀ a, a ∈ M → a < 2 ^ 51) ∧ yy = (x, r, s, z, q, tt, e, nI y, nI key, nI cat, nI (A0 + cntB (v.2 n) j), nI M.length, nI (plO cat M), plRk E y key M, plF (plL M), plK (plL M), nI i, nI n, nI j, cd, dd, S)) ?_ ⟨nlM sl L0, by rw [fndJ, List.append_nil], hL, rfl⟩
  rintro P j _ hj ⟨M, hM, hM51, rfl⟩ ih
  show k_L_isPlain_84 Q dp mc ms R63 _ x r s z q tt e (nI y) (nI key) (nI cat) (nI (A0 + cntB (v.2 n) j)) (nI M.length) (nI (plO cat M)) (plRk E y key M) (plF (plL M)) (plK (plL M)) (nI i) (nI n) (nI j) cd dd S
  unfold k_L_isPlain_84
  rw [nI_x n (by omega), ez]
  refine ⟨cX_mk gz.1 gz.2 (by decide) (by omega : n < 30) rfl, pk_le (sl n).length j (fun c => ?_) (fun c => ⟨hbd, ?_⟩)⟩
  · obtain rfl : j = (sl n).length := by omega
    rintro _ rfl
    rw [nI_add]
    exact hk M hM
  · obtain ⟨a, ha⟩ : ∃ a, (sl n)[j]? = some a := ⟨_, List.getElem?_eq_getElem c⟩
    have ga : (sl n).getD j 0 = a := by rw [List.getD_eq_getElem?_getD, ha]; rfl
    refine q_L_rec gs hnm ha (fun p p64 pd ep a51 => ⟨cX_mk gr.1 gr.2 (by decide) p64 rfl, ?_⟩)
    rw [nI_x p (by omega), ep]
    rintro _ rfl
    rw [nI_add, nI_x (32 + n) (by omega), ev, bN_bit c (by omega)]
    have step : k_L_isPlain_127 Q dp mc ms R63 (fun b0 b1 b2 b3 b4 b5 b6 b7 b8 b9 b10 b11 b12 b13 b14 b15 b16 b17 b18 b19 b20 S => P (b0, b1, b2, b3, b4, b5, b6, b7, b8, b9, b10, b11, b12, b13, b14, b15, b16, b17, b18, b19, b20, S)) x r s z q tt e (nI y) (nI key) (nI cat) (nI (A0 + cntB (v.2 n) j)) (nI M.length) (nI (plO cat M)) (plRk E y key M) (plF (plL M)) (plK (plL M)) (nI i) (nI n) (nI j) (lN a) (bI (v.2 n j)) cd dd S := by
      refine pl_127 hbd g a51 hM51 hy hkey hcat (fun M' hM' => ih _ c ⟨M', ?_, fun b hb => ?_, by rw [Nat.add_assoc]; rfl⟩)
      · rw [hM', hM, fndJ, ← List.append_assoc]
        show _ = nlM sl ((L0 ++ fndJ (fQ sl v E y n) n j) ++ (if fQ sl v E y n j = true then [(n, j)] else []))
        unfold nlM
        rw [List.map_append (l₁ := L0 ++ fndJ (fQ sl v E y n) n j)]
        congr 1
        unfold fQ
        rw [ga]
        by_cases cc : (v.2 n j && decide (0 < rkN E a y)) = true
        · rw [if_pos cc, if_pos cc]
          show [a] = [(sl n).getD j 0]
          rw [ga]
        · rw [if_neg cc, if_neg cc]
          rfl
      · rw [hM'] at hb
        rcases List.mem_append.mp hb with z1 | z1
        · exact hM51 b z1
        · split at z1
          · rw [List.mem_singleton.mp z1]; exact a51
          · exact absurd z1 List.not_mem_nil
    refine ⟨cX_mk gv.1.1 gv.1.2 (by decide) (by omega : 32 + n < 64) rfl, fun cc => ?_, fun cc => ?_⟩
    · have e0 : v.2 n j = false := by
        cases h : v.2 n j with
        | false => rfl
        | true => rw [h] at cc; exact absurd rfl cc
      rw [e0] at step
      exact step
    · have e1 : v.2 n j = true := by
        cases h : v.2 n j with
        | true => rfl
        | false => rw [h] at cc; exact absurd cc (by decide)
      rw [e1] at step
      exact step
end LZX
