/-! the law's names, isIn, deletes -/
section LI6
variable {S T U : cS} {dp made n : Nat} {sl : Nat → List Nat} {ix : Vw}
theorem q_L_names {Q : cS → Prop} {to x v m : Nat} {ids : List Nat} (gt : cA S to 14 ∧ cn S to = 64) (gx : cA S x 14 ∧ cn S x = 30) (gv : cA S v 14 ∧ cn S v = 30) (gm : cA S m 14 ∧ cn S m = 17) (hx : x ≠ to) (hv : v ≠ to) (hm : m ≠ to) (hl : ids.length ≤ 30) (h3 : cI S m 3 = nI ids.length) (hk : ∀ T, lwT S T [to] → rO S T to ([1] ++ List.range' 2 62) → cI T to 1 = nI ids.length → (∀ k, k < ids.length → cI T to (2 + k) = cI S x k) → (∀ k, k < 30 → cI T to (32 + k) = cI S v k) → Q T) : k_L_names Q dp to x v m S := by
  have mt : to ∈ [to] := List.mem_singleton.mpr rfl
  have nx : x ∉ [to] := rI3.mpr hx
  have nv : v ∉ [to] := rI3.mpr hv
  have nm : m ∉ [to] := rI3.mpr hm
  unfold k_L_names
  rw [nI_clamp (show 3 < 2 ^ 31 by decide), h3, nI_clamp (show 1 < 2 ^ 31 by decide)]
  refine ⟨cX_mk gm.1 gm.2 (by decide) (by decide : 3 < 17) rfl, cX_mk gt.1 gt.2 (by decide) (by decide : 1 < 64) rfl, fun S1 e1 => ?_⟩
  have w1 : lwT S S1 [to] := by rw [e1]; exact lw_SI mt
  have o1 : rO S S1 to ([1] ++ List.range' 2 62) := by rw [e1]; exact rO_SI (by simp)
  have r2 : ∀ k, k < 62 → 2 + k ∈ [1] ++ List.range' 2 62 := fun k hk => List.mem_append_right _ (List.mem_range'_1.mpr ⟨by omega, by omega⟩)
  unfold k_L_names_9L
  refine lfp_cnt ids.length (fun i y => ∃ V, lwT S V [to] ∧ rO S V to ([1] ++ List.range' 2 62) ∧ cI V to 1 = nI ids.length ∧ (∀ k, k < i → cI V to (2 + k) = cI S x k) ∧ y = (to, x, v, m, nI i, V)) ?_ ⟨S1, w1, o1, by rw [e1, cSI_s], fun k hk => absurd hk (Nat.not_lt_zero k), rfl⟩
  rintro P i _ hi ⟨V, b1, b2, b3, b4, rfl⟩ ih
  show k_L_names_9 Q dp _ to x v m (nI i) V
  have gmV := lw_row b1 gm
  have gxV := lw_row b1 gx
  have gtV := lw_row b1 gt
  unfold k_L_names_9
  rw [nI_clamp (show 3 < 2 ^ 31 by decide), lw_I b1 nm, h3]
  refine ⟨cX_mk gmV.1 gmV.2 (by decide) (by decide : 3 < 17) rfl, pk_le ids.length i (fun c => ?_) (fun c => ?_)⟩
  · obtain rfl : i = ids.length := by omega
    unfold k_L_names_36L
    refine lfp_cnt 30 (fun j y => ∃ W, lwT S W [to] ∧ rO S W to ([1] ++ List.range' 2 62) ∧ cI W to 1 = nI ids.length ∧ (∀ k, k < ids.length → k < 30 → cI W to (2 + k) = cI S x k) ∧ (∀ k, k < j → cI W to (32 + k) = cI S v k) ∧ y = (to, v, nI j, W)) ?_ ⟨V, b1, b2, b3, fun k hk _ => b4 k hk, fun k hk => absurd hk (Nat.not_lt_zero k), rfl⟩
    rintro P2 j _ hj ⟨W, c1, c2, c3, c4, c5, rfl⟩ ih2
    show k_L_names_36 Q dp _ to v (nI j) W
    have gvW := lw_row c1 gv
    have gtW := lw_row c1 gt
    unfold k_L_names_36
    refine pk_le 30 j (fun d => ?_) (fun d => ?_)
    · obtain rfl : j = 30 := by omega
      exact hk W c1 c2 c3 (fun k hk => c4 k hk (by omega)) c5
    · rw [nI_clamp (show j < 2 ^ 31 by omega), nI_add, nI_clamp (show 32 + j < 2 ^ 31 by omega), lw_I c1 nv]
      refine ⟨cX_mk gvW.1 gvW.2 (by decide) (by omega : j < 30) rfl, cX_mk gtW.1 gtW.2 (by decide) (by omega : 32 + j < 64) rfl, fun S2 e2 => ?_⟩
      have w2 : lwT W S2 [to] := by rw [e2]; exact lw_SI mt
      rintro _ rfl
      rw [nI_add]
      refine ih2 _ d ⟨S2, lw_tr c1 w2 (fun _ c => c), rO_tr c2 (by rw [e2]; exact rO_SI (K := [1] ++ List.range' 2 62) (by have := r2 (30 + j) (by omega); rwa [show 2 + (30 + j) = 32 + j by omega] at this)) (fun _ c => c), ?_, fun k hk hk2 => ?_, fun k hk => ?_, rfl⟩
      · rw [e2, cSI_o (by omega)]; exact c3
      · rw [e2, cSI_o (by omega)]; exact c4 k hk hk2
      · rw [e2]
        by_cases ck : k = j
        · rw [ck, cSI_s]
        · rw [cSI_o (by omega)]; exact c5 k (by omega)
  · rw [nI_clamp (show i < 2 ^ 31 by omega), nI_add, nI_clamp (show 2 + i < 2 ^ 31 by omega), lw_I b1 nx]
    refine ⟨cX_mk gxV.1 gxV.2 (by decide) (by omega : i < 30) rfl, cX_mk gtV.1 gtV.2 (by decide) (by omega : 2 + i < 64) rfl, fun S2 e2 => ?_⟩
    have w2 : lwT V S2 [to] := by rw [e2]; exact lw_SI mt
    rintro _ rfl
    rw [nI_add]
    refine ih _ c ⟨S2, lw_tr b1 w2 (fun _ c => c), rO_tr b2 (by rw [e2]; exact rO_SI (K := [1] ++ List.range' 2 62) (r2 i (by omega))) (fun _ c => c), ?_, fun k hk => ?_, rfl⟩
    · rw [e2, cSI_o (by omega)]; exact b3
    · rw [e2]
      by_cases ck : k = i
      · rw [ck, cSI_s]
      · rw [cSI_o (by omega)]; exact b4 k (by omega)
theorem q_L_isIn {Q : Int32 → cS → Prop} {of fl n : Nat} {ids : List Nat} (g : cA S of 14 ∧ cn S of = 64) (hfl : fl < 2 ^ 30) (h0 : cI S of 0 = nI fl) (hl : ids.length ≤ 30) (h1 : 0 < fl → cI S of 1 = nI ids.length ∧ ∀ k n, ids[k]? = some n → cI S of (2 + k) = nI n ∧ n < 30) (hn : n < 30) (h : Q (bI (decide (0 < fl) && decide (n ∈ ids))) S) : k_L_isIn Q dp of (nI n) S := by
  unfold k_L_isIn k_L_isIn_4L
  refine lfp_cnt ids.length (fun i y => y = (of, nI n, bI (decide (0 < fl) && decide (n ∈ ids.take i)), nI i, S)) ?_ ?_
  · rintro P i _ hi rfl ih
    show k_L_isIn_4 Q dp _ of (nI n) (bI _) (nI i) S
    unfold k_L_isIn_4
    rw [nI_clamp (show 0 < 2 ^ 31 by decide), h0]
    refine ⟨cX_mk g.1 g.2 (by decide) (by decide : 0 < 64) rfl, ?_⟩
    by_cases c0 : fl = 0
    · refine ⟨fun _ => ⟨⟨_, rfl⟩, ?_⟩, fun hc => absurd ((nI_le0 (by omega)).mpr c0) hc⟩
      rw [c0] at h ⊢
      exact h
    · refine ⟨fun hc => absurd ((nI_le0 (by omega)).mp hc) c0, fun _ => ?_⟩
      obtain ⟨e1, e2⟩ := h1 (by omega)
      rw [nI_clamp (show 1 < 2 ^ 31 by decide), e1]
      refine ⟨cX_mk g.1 g.2 (by decide) (by decide : 1 < 64) rfl, pk_le ids.length i (fun c => ⟨⟨_, rfl⟩, ?_⟩) (fun c => ?_)⟩
      · rw [List.take_of_length_le c]; exact h
      · have hp : decide (0 < fl) = true := by simp; omega
        obtain ⟨k, hk⟩ := get_ex (l := ids) (k := i) c
        obtain ⟨e3, e4⟩ := e2 i k hk
        have nxt : ∀ b : Bool, b = decide (n ∈ ids.take (i + 1)) → k_L_isIn_35 Q dp (fun b0 b1 b2 b3 S => P (b0, b1, b2, b3, S)) of (nI n) (nI i) (bI b) S := fun b hb => by
          unfold k_L_isIn_35
          rintro _ rfl
          rw [nI_add]
          refine ih _ c ?_
          rw [hb, hp]
          rfl
        have tk : ids.take (i + 1) = ids.take i ++ [k] := by rw [List.take_succ, hk]; rfl
        rw [hp, Bool.true_and]
        refine w_Bn (fun d => nxt true ?_) (fun d => ?_)
        · have := of_decide_eq_true d
          rw [tk]; simp [this]
        · have d' : n ∉ ids.take i := of_decide_eq_false d
          rw [nI_add, nI_clamp (show 2 + i < 2 ^ 31 by omega), e3]
          refine ⟨cX_mk g.1 g.2 (by decide) (by omega : 2 + i < 64) rfl, w_ne k n (fun e => nxt false ?_) (fun e => nxt true ?_)⟩
          · rw [tk]; simp [d']; exact fun z => e z.symm
          · rw [tk]; simp [e]
  · rw [List.take_zero]
    simp
    rfl
/-- who is deleted -/
def klB (sl : Nat → List Nat) (lv : Nat → Nat → Bool) (key n j : Nat) : Bool := lv n j && decide ((sl n).getD j 0 % 16 = key)
def lvK (sl : Nat → List Nat) (lv : Nat → Nat → Bool) (key n j : Nat) : Bool := lv n j && !decide ((sl n).getD j 0 % 16 = key)
theorem lvK_not {sl : Nat → List Nat} {lv : Nat → Nat → Bool} {key n j : Nat} : lvK sl lv key n j = (lv n j && !klB sl lv key n j) := by
  unfold lvK klB
  cases lv n j <;> simp
def bfK (BL : List Nat) (key : Nat) : List Nat := BL.filter (fun a => decide (a % 16 ≠ key))
theorem key_c {a key : Nat} (ha : a < 2 ^ 51) (hk : key < 100) {A B : Prop} (f : a % 16 ≠ key → A) (g : a % 16 = key → B) : (¬ (lN a &&& 15) = (nI key).toInt64 → A) ∧ ((lN a &&& 15) = (nI key).toInt64 → B) := by
  rw [lN_and15, nI_toL (by omega)]
  have hm : a % 16 < 16 := Nat.mod_lt _ (by decide)
  constructor
  · intro h
    exact f (fun e => h (by rw [e]))
  · intro h
    exact g ((pk_lEQ (by omega) (by omega)).mp h)
theorem q_del1 {Q : Int32 → cS → Prop} {r b s z v x m key : Nat} {BL : List Nat} (gb : cA S b 15 ∧ cn S b = 12) (gm : cA S m 14 ∧ cn S m = 17) (hkey : key < 100) (hl : BL.length ≤ 10) (h1 : cI S m 1 = nI BL.length) (hb : ∀ i a, BL[i]? = some a → cJ S b i = lN a ∧ a < 2 ^ 51) (hk : ∀ T, lwT S T [b, m] → rO S T m [1] → cI T m 1 = nI (bfK BL key).length → (∀ i a, (bfK BL key)[i]? = some a → cJ T b i = lN a) → k_L_deletes_78L Q dp r s z v x m (nI key) (nI (BL.length - (bfK BL key).length)) (nI 0) T) : k_L_deletes Q dp r b s z v x m (nI key) S := by
  have mb : b ∈ [b, m] := by simp
  have mm : m ∈ [b, m] := by simp
  have bm : m ≠ b := cA_ne gm.1 gb.1 (by decide)
  unfold k_L_deletes k_L_deletes_9L
  refine lfp_cnt BL.length (fun i y => ∃ V, lwT S V [b] ∧ (∀ k a, (bfK (BL.take i) key)[k]? = some a → cJ V b k = lN a) ∧ (∀ k a, i ≤ k → BL[k]? = some a → cJ V b k = lN a) ∧ y = (r, b, s, z, v, x, m, nI key, nI (bfK (BL.take i) key).length, nI 0, nI i, V)) ?_ ⟨S, lw_rf, fun k a hk => ?_, fun k a _ hk => (hb k a hk).1, rfl⟩
  · rintro P i _ hi ⟨V, a1, a2, a3, rfl⟩ ih
    show k_L_deletes_9 Q dp _ r b s z v x m (nI key) (nI (bfK (BL.take i) key).length) (nI 0) (nI i) V
    have gbV := lw_row a1 gb
    have gmV := lw_row a1 gm
    have hm1 : cI V m 1 = nI BL.length := by rw [lw_I a1 (rI3.mpr bm)]; exact h1
    have mX : cX V m 14 (nI 1) := cX_mk gmV.1 gmV.2 (by decide) (by decide : 1 < 17) rfl
    have lle : (bfK (BL.take i) key).length ≤ i := by
      have := List.length_filter_le (fun a => decide (a % 16 ≠ key)) (BL.take i)
      rw [List.length_take] at this
      unfold bfK
      omega
    unfold k_L_deletes_9
    rw [nI_clamp (show 1 < 2 ^ 31 by decide), hm1]
    refine ⟨mX, pk_le BL.length i (fun c => ⟨mX, fun y ey => ⟨mX, fun S2 e2 => ?_⟩⟩) (fun c => ?_)⟩
    · have w2 : lwT V S2 [b, m] := by rw [e2]; exact lw_SI mm
      rw [List.take_of_length_le c] at e2 ey a2 lle
      rw [ey, pk_sub (by omega), nI_add, Nat.zero_add]
      refine hk S2 (lw_tr (lw_wk a1 (by simp)) w2 (fun _ c => c)) (fun k hk' => ?_) ?_ (fun k a hk' => ?_)
      · rw [e2, cSI_o (fun e => hk' (by simp [e])), lw_I a1 (rI3.mpr bm)]
      · rw [e2, cSI_s]
      · have : cJ S2 b = cJ V b := by rw [e2]; rfl
        rw [this]; exact a2 k a hk'
    · obtain ⟨a, ha⟩ := get_ex (l := BL) (k := i) c
      obtain ⟨-, a51⟩ := hb i a ha
      have ci := nI_clamp (show i < 2 ^ 31 by omega)
      have cl := nI_clamp (show (bfK (BL.take i) key).length < 2 ^ 31 by omega)
      rw [ci, cl, a3 i a (Nat.le_refl _) ha]
      refine ⟨cX_mk gbV.1 gbV.2 (by decide) (by omega : i < 12) rfl, cX_mk gbV.1 gbV.2 (by decide) (by omega : (bfK (BL.take i) key).length < 12) rfl, fun S8 e8 => ?_⟩
      have w8 : lwT V S8 [b] := by rw [e8]; exact lw_SJ (List.mem_singleton.mpr rfl)
      have gb8 := lw_row w8 gbV
      have r8 : ∀ k, cJ S8 b k = if k = (bfK (BL.take i) key).length then lN a else cJ V b k := fun k => by
        rw [e8]
        by_cases ck : k = (bfK (BL.take i) key).length
        · rw [ck, cSJ_s, if_pos rfl]
        · rw [cSJ_o ck, if_neg ck]
      have r8i : cJ S8 b i = lN a := by
        rw [r8]
        split
        · rfl
        · exact a3 i a (Nat.le_refl _) ha
      have tk : BL.take (i + 1) = BL.take i ++ [a] := by rw [List.take_succ, ha]; rfl
      have fl : bfK (BL.take (i + 1)) key = if a % 16 = key then bfK (BL.take i) key else bfK (BL.take i) key ++ [a] := by
        unfold bfK
        rw [tk, List.filter_append]
        by_cases e : a % 16 = key <;> simp [e]
      have old : ∀ k a', (bfK (BL.take i) key)[k]? = some a' → cJ S8 b k = lN a' := fun k a' hk' => by
        have := get_lt hk'
        rw [r8, if_neg (by omega)]
        exact a2 k a' hk'
      have nxt : ∀ k a', i + 1 ≤ k → BL[k]? = some a' → cJ S8 b k = lN a' := fun k a' hk' ha' => by
        rw [r8, if_neg (by omega)]
        exact a3 k a' (by omega) ha'
      rw [r8i]
      refine ⟨cX_mk gb8.1 gb8.2 (by decide) (by omega : i < 12) rfl, key_c a51 hkey (fun e => ?_) (fun e => ?_)⟩
      · unfold k_L_deletes_48
        intro y1 ey1 y2 ey2
        rw [ey1, ey2, nI_add, nI_add]
        refine ih _ c ⟨S8, lw_tr a1 w8 (fun _ c => c), fun k a' hk' => ?_, nxt, ?_⟩
        · rw [fl, if_neg e] at hk'
          rcases app1_get.mp hk' with h | ⟨h1, h2⟩
          · exact old k a' h
          · rw [h1, r8, if_pos rfl, h2]
        · rw [fl, if_neg e, List.length_append]
          rfl
      · unfold k_L_deletes_48
        intro y1 ey1 y2 ey2
        rw [ey1, ey2, nI_add, nI_add]
        refine ih _ c ⟨S8, lw_tr a1 w8 (fun _ c => c), fun k a' hk' => ?_, nxt, ?_⟩
        · rw [fl, if_pos e] at hk'
          exact old k a' hk'
        · rw [fl, if_pos e]
          rfl
  · exact nomatch hk
/-- the killed of a view -/
def klS (sl : Nat → List Nat) (lv : Nat → Nat → Bool) (key : Nat) (ids : List Nat) : Nat := sumL (fun n => cntB (klB sl lv key n) (sl n).length) ids
theorem q_del2 {Q : Int32 → cS → Prop} {r s z v x m dn key h0 : Nat} {ids : List Nat} {lv : Nat → Nat → Bool} (gs : lSeg S r s z dn made sl) (gx : lXi S z x m made sl ids) (gv : cA S v 14 ∧ cn S v = 30) (nd : ids.Nodup) (hvr : v ≠ z ∧ v ≠ x ∧ v ≠ m) (hkey : key < 100) (hh : h0 < 100) (hv : ∀ n, n ∈ ids → cI S v n = nI (bN (lv n) (sl n).length)) (hk : ∀ T, lwT S T [v] → (∀ n, n ∈ ids → cI T v n = nI (bN (lvK sl lv key n) (sl n).length)) → Q (nI (h0 + klS sl lv key ids)) T) : k_L_deletes_78L Q dp r s z v x m (nI key) (nI h0) (nI 0) S := by
  obtain ⟨⟨⟨r1, r2⟩, ⟨s1, s2⟩, z1, z2⟩, ⟨m1, m2⟩, g5⟩ := id gs
  obtain ⟨⟨-, -, mm1, mm2⟩, ⟨-, l30⟩, h3, h4, -⟩ := id gx
  have mv : v ∈ [v] := List.mem_singleton.mpr rfl
  have nvr : r ∉ [v] := rI3.mpr (cA_ne r1 gv.1 (by decide))
  have nvs : s ∉ [v] := rI3.mpr (cA_ne s1 gv.1 (by decide))
  have nvz : z ∉ [v] := rI3.mpr hvr.1.symm
  have nvx : x ∉ [v] := rI3.mpr hvr.2.1.symm
  have nvm : m ∉ [v] := rI3.mpr hvr.2.2.symm
  unfold k_L_deletes_78L
  refine lfp_cnt ids.length (fun i y => ∃ V, lwT S V [v] ∧ (∀ k n, ids[k]? = some n → cI V v n = nI (bN (if k < i then lvK sl lv key n else lv n) (sl n).length)) ∧ y = (r, s, z, v, x, m, nI key, nI (h0 + klS sl lv key (ids.take i)), nI i, V)) ?_ ⟨S, lw_rf, fun k n hn => by rw [if_neg (Nat.not_lt_zero k)]; exact hv n (List.mem_of_getElem? hn), rfl⟩
  rintro P i _ hi ⟨V, a1, a2, rfl⟩ ih
  show k_L_deletes_78 Q dp _ r s z v x m (nI key) _ (nI i) V
  have gmV := lw_row a1 ⟨mm1, mm2⟩
  unfold k_L_deletes_78
  rw [nI_clamp (show 3 < 2 ^ 31 by decide), lw_I a1 nvm, h3]
  refine ⟨cX_mk gmV.1 gmV.2 (by decide) (by decide : 3 < 17) rfl, pk_le ids.length i (fun c => ?_) (fun c => ?_)⟩
  · have e : i = ids.length := by omega
    rw [e, List.take_length]
    refine hk V a1 (fun n hn => ?_)
    obtain ⟨k, hk'⟩ := List.mem_iff_getElem?.mp hn
    rw [a2 k n hk', if_pos (by have := get_lt hk'; omega)]
  · obtain ⟨n, hn⟩ := get_ex (l := ids) (k := i) c
    have kb : klS sl lv key (ids.take i) ≤ 300 := by
      unfold klS
      have := sumL_bd (f := fun n => cntB (klB sl lv key n) (sl n).length) (B := 10) (l := ids.take i) (fun n' hn' => by
        obtain ⟨k, hk'⟩ := List.mem_iff_getElem?.mp (List.mem_of_mem_take hn')
        exact Nat.le_trans (cntB_le _ _) (g5 n' (h4 k n' hk').2).2.1)
      rw [List.length_take] at this
      omega
    unfold k_L_deletes_90L
    refine lfp_cnt (sl n).length (fun j y => ∃ W, lwT S W [v] ∧ (∀ k n', ids[k]? = some n' → k ≠ i → cI W v n' = nI (bN (if k < i then lvK sl lv key n' else lv n') (sl n').length)) ∧ cI W v n = nI (bN (fun j' => if j' < j then lvK sl lv key n j' else lv n j') (sl n).length) ∧ y = (r, s, z, v, x, m, nI key, nI (h0 + klS sl lv key (ids.take i) + cntB (klB sl lv key n) j), nI i, nI j, W)) ?_ ⟨V, a1, fun k n' hk' _ => a2 k n' hk', by rw [a2 i n hn, if_neg (Nat.lt_irrefl i)]; exact congrArg nI (bN_ext (fun j hj => (if_neg (Nat.not_lt_zero j)).symm)), rfl⟩
    rintro P2 j _ hj ⟨W, c1, c2, c3, rfl⟩ ih2
    show k_L_deletes_90 Q dp _ _ r s z v x m (nI key) _ (nI i) (nI j) W
    have gsW := lw_seg c1 nvr nvs nvz gs
    have gvW := lw_row c1 gv
    have gxW : lXi W z x m made sl ids := by
      obtain ⟨⟨q1, q2, q3⟩, q4, q5, q6, q7⟩ := gx
      refine ⟨⟨lw_row c1 q1, lw_row c1 q2, lw_row c1 q3⟩, q4, ?_⟩
      rw [lw_I c1 nvm, lw_I c1 nvx, lw_I c1 nvz]
      exact ⟨q5, q6, q7⟩
    obtain ⟨⟨xX, ex⟩, ⟨zX, ez, l10⟩, i30, n30⟩ := lXi_X gxW hn
    have nmd := (h4 i n hn).2
    have vX : cX W v 14 (nI n) := cX_mk gvW.1 gvW.2 (by decide) n30 rfl
    have ci := nI_clamp (show i < 2 ^ 31 by omega)
    have cn' := nI_clamp (show n < 2 ^ 31 by omega)
    unfold k_L_deletes_90
    rw [ci, ex, cn', ez]
    refine ⟨xX, zX, pk_le (sl n).length j (fun d => ?_) (fun d => ?_)⟩
    · obtain rfl : j = (sl n).length := by omega
      rintro _ rfl
      rw [nI_add]
      refine ih _ c ⟨W, c1, fun k n' hk' => ?_, ?_⟩
      · by_cases ck : k = i
        · subst ck
          obtain rfl : n' = n := by rw [hn] at hk'; exact (Option.some.inj hk').symm
          rw [c3, if_pos (Nat.lt_succ_self _)]
          exact congrArg nI (bN_ext (fun j hj => if_pos hj))
        · rw [c2 k n' hk' ck]
          have : k < i ↔ k < i + 1 := by omega
          simp only [this]
      · unfold klS
        rw [sumL_take hn, Nat.add_assoc]
    · obtain ⟨a, ha⟩ := get_ex (l := sl n) (k := j) d
      have hga : (sl n).getD j 0 = a := by rw [List.getD_eq_getElem?_getD, ha]; rfl
      rw [c3, bN_bit (f := fun j' => if j' < j then lvK sl lv key n j' else lv n j') d (by omega), if_neg (Nat.lt_irrefl j)]
      have upd : ∀ (t : Bool) (x0 : Int32), t = klB sl lv key n j → x0 = (if t = true then (nI 1 <<< (nI j &&& 31)) ^^^ (-1) else -1) → k_L_deletes_174 Q dp (fun b0 b1 b2 b3 b4 b5 b6 b7 b8 S => P (b0, b1, b2, b3, b4, b5, b6, b7, b8, S)) (fun b0 b1 b2 b3 b4 b5 b6 b7 b8 b9 S => P2 (b0, b1, b2, b3, b4, b5, b6, b7, b8, b9, S)) r s z v x m (nI key) (nI (h0 + klS sl lv key (ids.take i) + cntB (klB sl lv key n) j)) (nI i) (nI j) (bI t) x0 (nI (bN (fun j' => if j' < j then lvK sl lv key n j' else lv n j') (sl n).length)) (nI n) v W := by
        intro t x0 ht hx0
        unfold k_L_deletes_174
        rw [cn']
        refine ⟨vX, fun S4 e4 => ?_⟩
        have w4 : lwT W S4 [v] := by rw [e4]; exact lw_SI mv
        have v4 : cI S4 v n = nI (bN (fun j' => if j' < j + 1 then lvK sl lv key n j' else lv n j') (sl n).length) := by
          rw [e4, cSI_s, hx0]
          cases ht' : t with
          | false =>
            rw [if_neg (by decide), and_m1]
            refine congrArg nI (bN_ext (fun k hk' => ?_))
            by_cases ck : k = j
            · subst ck
              rw [if_neg (Nat.lt_irrefl k), if_pos (Nat.lt_succ_self k), lvK_not, ← ht, ht']
              simp
            · have : k < j ↔ k < j + 1 := by omega
              simp only [this]
          | true =>
            rw [if_pos rfl, bN_off (by omega)]
            refine congrArg nI (bN_ext (fun k hk' => ?_))
            by_cases ck : k = j
            · subst ck
              rw [upR_s, if_pos (Nat.lt_succ_self k), lvK_not, ← ht, ht']
              simp
            · have : k < j ↔ k < j + 1 := by omega
              rw [upR_n ck]
              simp only [this]
        have o4 : ∀ k n', ids[k]? = some n' → k ≠ i → cI S4 v n' = nI (bN (if k < i then lvK sl lv key n' else lv n') (sl n').length) := fun k n' hk' ck => by
          have : n' ≠ n := fun e => ck (nd_ix nd hk' (by rw [e]; exact hn))
          rw [e4, cSI_o this]
          exact c2 k n' hk' ck
        have fin : ∀ y : Nat, y = (if t = true then 1 else 0) → k_L_deletes_188 Q dp (fun b0 b1 b2 b3 b4 b5 b6 b7 b8 S => P (b0, b1, b2, b3, b4, b5, b6, b7, b8, S)) (fun b0 b1 b2 b3 b4 b5 b6 b7 b8 b9 S => P2 (b0, b1, b2, b3, b4, b5, b6, b7, b8, b9, S)) r s z v x m (nI key) (nI i) (nI j) (nI y) (nI (h0 + klS sl lv key (ids.take i) + cntB (klB sl lv key n) j)) S4 := fun y hy => by
          unfold k_L_deletes_188
          intro y1 ey1 y2 ey2
          rw [ey1, ey2, nI_add, nI_add]
          refine ih2 _ d ⟨S4, lw_tr c1 w4 (fun _ c => c), o4, v4, ?_⟩
          rw [cntB, hy, ← ht, Nat.add_assoc]
        exact w_B0 (fun e => fin 0 (by rw [e]; rfl)) (fun e => fin 1 (by rw [e]; rfl))
      have t147 : klB sl lv key n j = false → k_L_deletes_147 Q dp (fun b0 b1 b2 b3 b4 b5 b6 b7 b8 S => P (b0, b1, b2, b3, b4, b5, b6, b7, b8, S)) (fun b0 b1 b2 b3 b4 b5 b6 b7 b8 b9 S => P2 (b0, b1, b2, b3, b4, b5, b6, b7, b8, b9, S)) r s z v x m (nI key) (nI (h0 + klS sl lv key (ids.take i) + cntB (klB sl lv key n) j)) (nI i) (nI j) W := fun hf => by
        unfold k_L_deletes_147 k_L_deletes_148
        rw [ci, ex, cn', c3]
        refine ⟨xX, vX, w_z 0 (fun _ => upd false _ hf.symm rfl) (fun c0 => absurd c0 (by decide))⟩
      refine ⟨xX, vX, w_N1 (fun e => t147 (by unfold klB; rw [e]; rfl)) (fun e => ⟨xX, ?_⟩)⟩
      refine q_L_rec gsW nmd ha (fun i2 hi2 hi3 hr ha51 => ?_)
      rw [nI_clamp (by omega), hr]
      have r1W := lw_row c1 ⟨r1, r2⟩
      refine ⟨cX_mk r1W.1 r1W.2 (by decide) hi2 rfl, key_c ha51 hkey (fun e2 => t147 ?_) (fun e2 => ?_)⟩
      · unfold klB
        rw [hga]
        simp [e2]
      · unfold k_L_deletes_148
        rw [ci, ex, cn', c3]
        refine ⟨xX, vX, w_z 1 (fun c0 => absurd c0 (by decide)) (fun _ => upd true _ ?_ rfl)⟩
        unfold klB
        rw [hga, e]
        simp [e2]
end LI6
