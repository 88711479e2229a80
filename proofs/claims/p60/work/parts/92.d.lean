/-! what the law writes: rows of its own alone -/
def lwT (S T : cS) (A : List Nat) : Prop := (cL T = cL S ∧ cK T = cK S ∧ ci T = ci S ∧ cr T = cr S ∧ cw T = cw S ∧ cn T = cn S ∧ cO T = cO S) ∧ ∀ a, a ∉ A → cI T a = cI S a ∧ cJ T a = cJ S a
section LD
variable {S T U : cS} {A B : List Nat} {dp r s z q dn made : Nat} {sl : Nat → List Nat} {v : Vw}
theorem lw_rf : lwT S S A := ⟨⟨rfl, rfl, rfl, rfl, rfl, rfl, rfl⟩, fun _ _ => ⟨rfl, rfl⟩⟩
theorem lw_tr (h1 : lwT S T A) (h2 : lwT T U B) (h : ∀ a, a ∈ B → a ∈ A) : lwT S U A := by
  obtain ⟨⟨a1, a2, a3, a4, a5, a6, a7⟩, a8⟩ := h1
  obtain ⟨⟨b1, b2, b3, b4, b5, b6, b7⟩, b8⟩ := h2
  refine ⟨⟨b1.trans a1, b2.trans a2, b3.trans a3, b4.trans a4, b5.trans a5, b6.trans a6, b7.trans a7⟩, fun a ha => ?_⟩
  obtain ⟨c1, c2⟩ := a8 a ha
  obtain ⟨d1, d2⟩ := b8 a (fun z => ha (h a z))
  exact ⟨d1.trans c1, d2.trans c2⟩
theorem lw_wk (h1 : lwT S T A) (h : ∀ a, a ∈ A → a ∈ B) : lwT S T B := ⟨h1.1, fun a ha => h1.2 a (fun z => ha (h a z))⟩
theorem lw_SI {a k : Nat} {x : Int32} (h : a ∈ A) : lwT S (cSI S a k x) A := ⟨⟨rfl, rfl, rfl, rfl, rfl, rfl, rfl⟩, fun b hb => ⟨mU_n (fun e => hb (e ▸ h)), rfl⟩⟩
theorem lw_SJ {a k : Nat} {x : Int64} (h : a ∈ A) : lwT S (cSJ S a k x) A := ⟨⟨rfl, rfl, rfl, rfl, rfl, rfl, rfl⟩, fun b hb => ⟨rfl, mU_n (fun e => hb (e ▸ h))⟩⟩
theorem lw_A {a k : Nat} (h : lwT S T A) (ha : cA S a k) : cA T a k := by
  obtain ⟨⟨h1, h2, -⟩, -⟩ := h
  exact ⟨by rw [h1]; exact ha.1, by rw [h2]; exact ha.2⟩
theorem lw_n {a : Nat} (h : lwT S T A) : cn T a = cn S a := by rw [h.1.2.2.2.2.2.1]
theorem lw_I {a : Nat} (h : lwT S T A) (ha : a ∉ A) : cI T a = cI S a := (h.2 a ha).1
theorem lw_J {a : Nat} (h : lwT S T A) (ha : a ∉ A) : cJ T a = cJ S a := (h.2 a ha).2
theorem lw_row {a k N : Nat} (h : lwT S T A) (ha : cA S a k ∧ cn S a = N) : cA T a k ∧ cn T a = N := ⟨lw_A h ha.1, (lw_n h).trans ha.2⟩
theorem lw_seg (h : lwT S T A) (hr : r ∉ A) (hs : s ∉ A) (hz : z ∉ A) (g : lSeg S r s z dn made sl) : lSeg T r s z dn made sl := by
  obtain ⟨⟨g1, g2, g3⟩, g4, g5⟩ := g
  refine ⟨⟨lw_row h g1, lw_row h g2, lw_row h g3⟩, g4, ?_⟩
  rw [lw_I h hz, lw_J h hs, lw_J h hr]
  exact g5
theorem lw_vw (h : lwT S T A) (hq : q ∉ A) (g : lVw S q made sl v) : lVw T q made sl v := by
  obtain ⟨g1, g5⟩ := g
  refine ⟨lw_row h g1, ?_⟩
  rw [lw_I h hq]
  exact g5
theorem cSI_s {b k : Nat} {x : Int32} : cI (cSI S b k x) b k = x := mU_at
theorem cSI_o {b k j : Nat} {x : Int32} (h : j ≠ k) : cI (cSI S b k x) b j = cI S b j := mU_ne h
theorem cSJ_s {b k : Nat} {x : Int64} : cJ (cSJ S b k x) b k = x := mU_at
theorem cSJ_o {b k j : Nat} {x : Int64} (h : j ≠ k) : cJ (cSJ S b k x) b j = cJ S b j := mU_ne h
/-- what leaves give for a strength of one -/
def gaN (sl : Nat → List Nat) (v : Vw) (l : Nat) : Nat := if l = 0 then 3 * raS sl v 0 0 else if l = 1 then raS sl v 1 2 else if l = 2 then 3 * (raS sl v 0 0 + raS sl v 0 2) else if l = 3 then 3 * (raS sl v 0 0 + raS sl v 0 3) else if l = 4 then 96 else if l = 5 then 32 else if l = 6 then 96 else if l = 7 then 3 * raS sl v 0 3 else 3 * raS sl v 0 4
def lE (S : cS) (e : Nat) (E : Nat → Nat) : Prop := (cA S e 14 ∧ cn S e = 9) ∧ ∀ l, l < 9 → cI S e l = nI (E l) ∧ E l ≤ 102
def giN (E : Nat → Nat) (a l : Nat) : Nat := if lcN a l = 0 then 0 else if 4 ≤ l ∧ l ≤ 6 then E l else stN (lcN a l) * E l
def rkN (E : Nat → Nat) (a y : Nat) : Nat := if y < 7 then giN E a y else if y = 7 then giN E a 0 + giN E a 1 + giN E a 7 else if 0 < giN E a 0 ∧ 0 < giN E a 8 ∧ giN E a 1 = 0 then giN E a 0 + giN E a 8 else 0
def ofB (l y : Nat) : Bool := (decide (l = y) && decide (y < 7)) || ((decide (y = 7) && (decide (l = 0) || (decide (l = 1) || decide (l = 7)))) || (decide (y = 8) && (decide (l = 0) || decide (l = 8))))
def itN (a l : Nat) : Nat := if l = 2 ∨ l = 3 then cuN a 0 0 else lcN a l
def b1N (E : Nat → Nat) (mo l : Nat) : Nat := if mo = 0 then 0 else if 4 ≤ l ∧ l ≤ 6 then E l else stN mo * E l
def moN (L : List Nat) (a t l : Nat) : Nat := mxB (fun i => itN (L.getD (a + i) 0) l) (t - a)
def bdL (E : Nat → Nat) (L : List Nat) (a t y : Nat) : Nat → Nat := smN (fun l => b1N E (if ofB l y = true then moN L a t l else 0) l)
theorem raS_le (h : alS sl v v.1 < 65535) (f t : Nat) : raS sl v f t ≤ 17 := rarN_le h
theorem gaN_le (h : alS sl v v.1 < 65535) (l : Nat) : gaN sl v l ≤ 102 := by
  have a := raS_le h 0 0
  have b := raS_le h 1 2
  have c := raS_le h 0 2
  have d := raS_le h 0 3
  have e := raS_le h 0 4
  unfold gaN
  repeat' split
  all_goals omega
theorem alS_vw (gs : lSeg S r s z dn made sl) (gv : lVw S q made sl v) : alS sl v v.1 ≤ 300 := alS_le gv.2.2.1 (fun n hn => by
  obtain ⟨k, hk⟩ := List.mem_iff_getElem?.mp hn
  exact (gs.2.2 n (gv.2.2.2.1 k n hk).2).2.1)
theorem giN_le {E : Nat → Nat} (hE : ∀ l, l < 9 → E l ≤ 102) {a l : Nat} (hl : l < 9) : giN E a l ≤ 6528 := by
  have h := hE l hl
  have hs := stN_le (lcN a l)
  unfold giN
  split
  · omega
  · split
    · omega
    · exact Nat.le_trans (Nat.mul_le_mul hs h) (by decide)
theorem b1N_le {E : Nat → Nat} (hE : ∀ l, l < 9 → E l ≤ 102) {m l : Nat} (hl : l < 9) : b1N E m l ≤ 6528 := by
  have h := hE l hl
  have hs := stN_le m
  unfold b1N
  split
  · omega
  · split
    · omega
    · exact Nat.le_trans (Nat.mul_le_mul hs h) (by decide)
theorem itN_le (a l : Nat) : itN a l ≤ 5 := by
  unfold itN
  split
  · exact cuN_le _ _ _
  · exact lcN_le _ _
theorem moN_le (L : List Nat) (a t l : Nat) : moN L a t l ≤ 5 := mxB_le (fun k => itN_le _ _) _
theorem bdL_le {E : Nat → Nat} (hE : ∀ l, l < 9 → E l ≤ 102) {L : List Nat} {a t y : Nat} : ∀ {k : Nat}, k ≤ 9 → bdL E L a t y k ≤ 6528 * k
  | 0, _ => Nat.zero_le _
  | k + 1, h => by
    have ih := bdL_le hE (L := L) (a := a) (t := t) (y := y) (k := k) (by omega)
    have := b1N_le hE (m := if ofB k y = true then moN L a t k else 0) (l := k) (by omega)
    unfold bdL at ih ⊢
    rw [smN_s]
    omega
section
variable {Q : cS → Prop} {e : Nat}
theorem q_L_gains (gs : lSeg S r s z dn made sl) (gv : lVw S q made sl v) (he : cA S e 14 ∧ cn S e = 9) (hr : r ≠ e) (hs : s ≠ e) (hz : z ≠ e) (hq : q ≠ e) (h : ∀ T, lwT S T [e] → lE T e (gaN sl v) → Q T) : k_L_gains Q dp r s z q e S := by
  have hb := alS_vw gs gv
  have hle := gaN_le (sl := sl) (v := v) (by omega)
  have nr : r ∉ [e] := fun c => hr (List.mem_singleton.mp c)
  have ns : s ∉ [e] := fun c => hs (List.mem_singleton.mp c)
  have nz : z ∉ [e] := fun c => hz (List.mem_singleton.mp c)
  have nq : q ∉ [e] := fun c => hq (List.mem_singleton.mp c)
  have me : e ∈ [e] := List.mem_singleton.mpr rfl
  unfold k_L_gains
  refine q_L_rarity (f := 0) (t := 0) gs gv (by decide) (by decide) ?_
  refine q_L_rarity (f := 0) (t := 2) gs gv (by decide) (by decide) ?_
  refine q_L_rarity (f := 0) (t := 3) gs gv (by decide) (by decide) ?_
  refine ⟨cX_mk he.1 he.2 (by decide) (by decide : 0 < 9) rfl, fun S1 e1 => ?_⟩
  rw [nI_clamp (by decide), pk_mul] at e1
  have w1 : lwT S S1 [e] := by rw [e1]; exact lw_SI me
  refine q_L_rarity (f := 1) (t := 2) (lw_seg w1 nr ns nz gs) (lw_vw w1 nq gv) (by decide) (by decide) ?_
  have h1 := lw_row w1 he
  refine ⟨cX_mk h1.1 h1.2 (by decide) (by decide : 1 < 9) rfl, fun S2 e2 => ?_⟩
  rw [nI_clamp (by decide)] at e2
  have w2 : lwT S S2 [e] := lw_tr w1 (by rw [e2]; exact lw_SI me) (fun _ c => c)
  have h2 := lw_row w2 he
  refine ⟨cX_mk h2.1 h2.2 (by decide) (by decide : 2 < 9) rfl, fun S3 e3 => ?_⟩
  rw [nI_clamp (by decide), nI_add, pk_mul] at e3
  have w3 : lwT S S3 [e] := lw_tr w2 (by rw [e3]; exact lw_SI me) (fun _ c => c)
  have h3 := lw_row w3 he
  refine ⟨cX_mk h3.1 h3.2 (by decide) (by decide : 3 < 9) rfl, fun S4 e4 => ?_⟩
  rw [nI_clamp (by decide), nI_add, pk_mul] at e4
  have w4 : lwT S S4 [e] := lw_tr w3 (by rw [e4]; exact lw_SI me) (fun _ c => c)
  have h4 := lw_row w4 he
  refine ⟨cX_mk h4.1 h4.2 (by decide) (by decide : 4 < 9) rfl, fun S5 e5 => ?_⟩
  rw [nI_clamp (by decide)] at e5
  have w5 : lwT S S5 [e] := lw_tr w4 (by rw [e5]; exact lw_SI me) (fun _ c => c)
  have h5 := lw_row w5 he
  refine ⟨cX_mk h5.1 h5.2 (by decide) (by decide : 5 < 9) rfl, fun S6 e6 => ?_⟩
  rw [nI_clamp (by decide)] at e6
  have w6 : lwT S S6 [e] := lw_tr w5 (by rw [e6]; exact lw_SI me) (fun _ c => c)
  have h6 := lw_row w6 he
  refine ⟨cX_mk h6.1 h6.2 (by decide) (by decide : 6 < 9) rfl, fun S7 e7 => ?_⟩
  rw [nI_clamp (by decide)] at e7
  have w7 : lwT S S7 [e] := lw_tr w6 (by rw [e7]; exact lw_SI me) (fun _ c => c)
  have h7 := lw_row w7 he
  refine ⟨cX_mk h7.1 h7.2 (by decide) (by decide : 7 < 9) rfl, fun S8 e8 => ?_⟩
  rw [nI_clamp (by decide), pk_mul] at e8
  have w8 : lwT S S8 [e] := lw_tr w7 (by rw [e8]; exact lw_SI me) (fun _ c => c)
  have h8 := lw_row w8 he
  refine q_L_rarity (f := 0) (t := 4) (lw_seg w8 nr ns nz gs) (lw_vw w8 nq gv) (by decide) (by decide) ?_
  refine ⟨cX_mk h8.1 h8.2 (by decide) (by decide : 8 < 9) rfl, fun S9 e9 => ?_⟩
  rw [nI_clamp (by decide), pk_mul] at e9
  have w9 : lwT S S9 [e] := lw_tr w8 (by rw [e9]; exact lw_SI me) (fun _ c => c)
  refine h S9 w9 ⟨lw_row w9 he, fun l hl => ⟨?_, hle l⟩⟩
  subst e1 e2 e3 e4 e5 e6 e7 e8 e9
  obtain rfl | rfl | rfl | rfl | rfl | rfl | rfl | rfl | rfl : l = 0 ∨ l = 1 ∨ l = 2 ∨ l = 3 ∨ l = 4 ∨ l = 5 ∨ l = 6 ∨ l = 7 ∨ l = 8 := by omega
  all_goals
    repeat rw [cSI_o (by decide)]
    rw [cSI_s]
    rfl
end
section
variable {Q : Int32 → cS → Prop} {e a l y : Nat} {E : Nat → Nat}
theorem lE_X (g : lE S e E) (hl : l < 9) : cX S e 14 (nI l) ∧ cI S e (nI l).toNatClampNeg = nI (E l) := ⟨cX_mk g.1.1 g.1.2 (by decide) hl rfl, by rw [nI_clamp (by omega)]; exact (g.2 l hl).1⟩
theorem q_L_gives (g : lE S e E) (ha : a < 2 ^ 63) (hl : l < 9) (h : Q (nI (giN E a l)) S) : k_L_gives Q dp (lN a) (nI l) e S := by
  obtain ⟨x1, x2⟩ := lE_X g hl
  have hc := lcN_le a l
  unfold giN at h
  unfold k_L_gives
  refine q_L_leafCount ha hl ?_
  have k33 : ¬ (4 ≤ l ∧ l ≤ 6) → lcN a l ≠ 0 → k_L_gives_33 Q dp (nI l) e (nI (lcN a l)) S := fun c d => by
    rw [if_neg d, if_neg c] at h
    unfold k_L_gives_33
    refine q_L_strength (by omega) ⟨x1, ?_⟩
    rw [x2, pk_mul]
    exact h
  refine w_nz _ (fun d => ?_) (fun d => ?_)
  · refine pk_le l 3 (fun c => k33 (by omega) (by omega)) (fun c => ?_)
    refine pk_le 7 l (fun b => k33 (by omega) (by omega)) (fun b => ⟨x1, ?_⟩)
    rw [if_neg (by omega), if_pos (by omega)] at h
    rw [x2]
    exact h
  · rw [if_pos d] at h
    exact h
theorem q_L_rank (g : lE S e E) (ha : a < 2 ^ 63) (hy : y < 9) (h : Q (nI (rkN E a y)) S) : k_L_rank Q dp (lN a) (nI y) e S := by
  have hE : ∀ l, l < 9 → E l ≤ 102 := fun l hl => (g.2 l hl).2
  have b0 := giN_le hE (a := a) (l := 0) (by decide)
  have b1 := giN_le hE (a := a) (l := 1) (by decide)
  have b8 := giN_le hE (a := a) (l := y) hy
  unfold rkN at h
  unfold k_L_rank
  refine pk_le 7 y (fun c => ?_) (fun c => ?_)
  · rw [if_neg (by omega)] at h
    refine q_L_gives (l := 0) g ha (by decide) (q_L_gives (l := 1) g ha (by decide) (q_L_gives (l := y) g ha hy ?_))
    refine w_ne y 7 (fun d => ?_) (fun d => ?_)
    · obtain rfl : y = 8 := by omega
      rw [if_neg (by decide)] at h
      by_cases c0 : giN E a 0 = 0
      · rw [if_neg (by omega)] at h
        exact ⟨fun _ => h, fun hc => absurd ((nI_le0 (by omega)).mpr c0) hc⟩
      · refine ⟨fun hc => absurd ((nI_le0 (by omega)).mp hc) c0, fun _ => ?_⟩
        by_cases c8 : giN E a 8 = 0
        · rw [if_neg (by omega)] at h
          exact ⟨fun _ => h, fun hc => absurd ((nI_le0 (by omega)).mpr c8) hc⟩
        · refine ⟨fun hc => absurd ((nI_le0 (by omega)).mp hc) c8, fun _ => ?_⟩
          refine w_nz _ (fun c1 => ?_) (fun c1 => ?_)
          · rw [if_neg (by omega)] at h
            exact h
          · rw [if_pos ⟨by omega, by omega, c1⟩] at h
            rw [nI_add]
            exact h
    · subst d
      rw [if_pos rfl] at h
      rw [nI_add, nI_add]
      exact h
  · rw [if_pos c] at h
    exact q_L_gives g ha hy h
theorem q_L_bd84 {n a t : Nat} {of : Bool} {bd : Nat} {R6 : Nat → Nat → Int32 → Int32 → Int32 → Int32 → Nat → Int32 → Int32 → cS → Prop} (gs : lSeg S r s z dn made sl) (hn : n < made) (g : lE S e E) (hat : a ≤ t) (ht : t ≤ (sl n).length) (hl : l < 9) (hy : y < 9) (h : R6 r s (nI n) (nI a) (nI t) (nI y) e (nI (bd + b1N E (if of = true then moN (sl n) a t l else 0) l)) (nI (l + 1)) S) : k_L_bound_84L Q dp R6 r s (nI n) (nI a) (nI t) (nI y) e (nI bd) (nI l) (bI of) (nI 0) (nI a) S := by
  obtain ⟨⟨⟨r1, r2⟩, ⟨s1, s2⟩, z1, z2⟩, ⟨m1, m2⟩, g5⟩ := id gs
  have hlen := (g5 n hn).2.1
  obtain ⟨x1, x2⟩ := lE_X g hl
  have hend : ∀ mo : Nat, mo ≤ 5 → mo = (if of = true then moN (sl n) a t l else 0) → k_L_bound_160 Q dp R6 r s (nI n) (nI a) (nI t) (nI y) e (nI bd) (nI l) (nI mo) S := fun mo hmo em => by
    rw [← em] at h
    unfold b1N at h
    have k192 : ¬ (4 ≤ l ∧ l ≤ 6) → mo ≠ 0 → k_L_bound_192 Q dp R6 r s (nI n) (nI a) (nI t) (nI y) e (nI l) (nI mo) (nI bd) S := fun c d => by
      rw [if_neg d, if_neg c] at h
      unfold k_L_bound_192
      refine q_L_strength (by omega) ⟨x1, ?_⟩
      unfold k_L_bound_203
      intro y1 ey1 y2 ey2
      rw [ey1, ey2, x2, pk_mul, nI_add, nI_add]
      exact h
    unfold k_L_bound_160
    refine w_nz _ (fun d => ?_) (fun d => ?_)
    · refine pk_le l 3 (fun c => k192 (by omega) (by omega)) (fun c => ?_)
      refine pk_le 7 l (fun b => k192 (by omega) (by omega)) (fun b => ⟨x1, ?_⟩)
      rw [if_neg (by omega), if_pos (by omega)] at h
      unfold k_L_bound_203
      intro y1 ey1 y2 ey2
      rw [ey1, ey2, x2, nI_add, nI_add]
      exact h
    · rw [if_pos d] at h
      unfold k_L_bound_203
      intro y1 ey1 y2 ey2
      rw [ey1, ey2, nI_add, nI_add]
      exact h
  unfold k_L_bound_84L
  refine lfp_cnt (t - a) (fun k w => (of = true ∨ k = 0) ∧ w = (r, s, nI n, nI a, nI t, nI y, e, nI bd, nI l, bI of, nI (mxB (fun i => itN ((sl n).getD (a + i) 0) l) k), nI (a + k), S)) ?_ ⟨Or.inr rfl, rfl⟩
  rintro P k _ hk ⟨hok, rfl⟩ ih
  show k_L_bound_84 Q dp R6 _ r s (nI n) (nI a) (nI t) (nI y) e (nI bd) (nI l) (bI of) (nI (mxB (fun i => itN ((sl n).getD (a + i) 0) l) k)) (nI (a + k)) S
  have hm5 : mxB (fun i => itN ((sl n).getD (a + i) 0) l) k ≤ 5 := mxB_le (fun k => itN_le _ _) k
  unfold k_L_bound_84
  refine pk_le t (a + k) (fun c => ?_) (fun c => ?_)
  · refine hend _ hm5 ?_
    obtain rfl : k = t - a := by omega
    rcases hok with rfl | c0
    · rfl
    · unfold moN
      rw [c0]
      split <;> rfl
  · refine w_B0 (fun e0 => ?_) (fun e0 => ?_)
    · subst e0
      rcases hok with c0 | rfl
      · exact absurd c0 (by decide)
      · exact hend _ hm5 rfl
    · subst e0
      obtain ⟨d, hd⟩ : ∃ d, (sl n)[a + k]? = some d := ⟨_, List.getElem?_eq_getElem (by omega)⟩
      have hgd : (sl n).getD (a + k) 0 = d := by rw [List.getD_eq_getElem?_getD, hd]; rfl
      refine q_L_rec gs hn hd (fun i hi hi2 hr hd51 => ⟨cX_mk r1 r2 (by decide) hi rfl, fun x ex => ?_⟩)
      rw [nI_clamp (by omega), hr] at ex
      subst ex
      have h136 : k_L_bound_136 Q dp R6 (fun b0 b1 b2 b3 b4 b5 b6 b7 b8 b9 b10 b11 S => P (b0, b1, b2, b3, b4, b5, b6, b7, b8, b9, b10, b11, S)) r s (nI n) (nI a) (nI t) (nI y) e (nI bd) (nI l) (bI true) (nI (mxB (fun i => itN ((sl n).getD (a + i) 0) l) k)) (nI (a + k)) (nI (itN d l)) S := by
        have h5 := itN_le d l
        unfold k_L_bound_136 k_L_bound_152
        refine pk_le _ _ (fun b => ?_) (fun b => ?_)
        · intro y1 ey1
          rw [ey1, nI_add]
          refine ih _ (by omega) ⟨Or.inl rfl, ?_⟩
          rw [mxB, hgd, Nat.max_eq_left b]
          rfl
        · intro y1 ey1
          rw [ey1, nI_add]
          refine ih _ (by omega) ⟨Or.inl rfl, ?_⟩
          rw [mxB, hgd, Nat.max_eq_right (by omega)]
          rfl
      unfold itN at h136
      refine pk_eq l 2 (fun c2 => ?_) (fun c2 => ?_)
      · rw [if_pos (Or.inl c2)] at h136
        unfold k_L_bound_119
        exact q_L_count (f := 0) (t := 0) (by omega) (by decide) (by decide) h136
      · refine w_ne l 3 (fun c3 => ?_) (fun c3 => ?_)
        · rw [if_neg (by omega)] at h136
          exact q_L_leafCount (by omega) hl h136
        · rw [if_pos (Or.inr c3)] at h136
          unfold k_L_bound_119
          exact q_L_count (f := 0) (t := 0) (by omega) (by decide) (by decide) h136
theorem q_L_bound {n a t : Nat} (gs : lSeg S r s z dn made sl) (hn : n < made) (g : lE S e E) (hat : a ≤ t) (ht : t ≤ (sl n).length) (hy : y < 9) (h : Q (nI (bdL E (sl n) a t y 9)) S) : k_L_bound Q dp r s (nI n) (nI a) (nI t) (nI y) e S := by
  have hE : ∀ l, l < 9 → E l ≤ 102 := fun l hl => (g.2 l hl).2
  have hlen := (gs.2.2 n hn).2.1
  unfold k_L_bound k_L_bound_6L
  refine lfp_cnt 9 (fun l w => w = (r, s, nI n, nI a, nI t, nI y, e, nI (bdL E (sl n) a t y l), nI l, S)) ?_ rfl
  rintro P l _ hl rfl ih
  show k_L_bound_6 Q dp _ r s (nI n) (nI a) (nI t) (nI y) e _ (nI l) S
  have hb := bdL_le hE (L := sl n) (a := a) (t := t) (y := y) hl
  unfold k_L_bound_6
  refine pk_le 9 l (fun c => ?_) (fun c => ?_)
  · obtain rfl : l = 9 := by omega
    exact h
  · have h76 : ∀ b : Bool, b = ofB l y → k_L_bound_76 Q dp (fun b0 b1 b2 b3 b4 b5 b6 b7 b8 S => P (b0, b1, b2, b3, b4, b5, b6, b7, b8, S)) r s (nI n) (nI a) (nI t) (nI y) e (nI (bdL E (sl n) a t y l)) (nI l) (bI b) S := fun b eb => by
      unfold k_L_bound_76
      refine q_L_bd84 gs hn g hat ht c hy ?_
      refine ih _ c ?_
      rw [eb]
      rfl
    have h52 : ¬ (l = y ∧ y < 7) → (y = 7 → ¬ (l = 0 ∨ l = 1 ∨ l = 7)) → k_L_bound_52 Q dp (fun b0 b1 b2 b3 b4 b5 b6 b7 b8 S => P (b0, b1, b2, b3, b4, b5, b6, b7, b8, S)) r s (nI n) (nI a) (nI t) (nI y) e (nI (bdL E (sl n) a t y l)) (nI l) S := fun d1 d2 => by
      unfold k_L_bound_52 k_L_bound_75
      refine w_ne y 8 (fun c8 => h76 false (by unfold ofB; symm; simp; omega)) (fun c8 => ?_)
      refine w_z l (fun c0 => h76 true (by unfold ofB; simp [c8, c0])) (fun c0 => ?_)
      exact w_ne l 8 (fun e8 => h76 false (by unfold ofB; symm; simp; omega)) (fun e8 => h76 true (by unfold ofB; simp [c8, e8]))
    have h27 : ¬ (l = y ∧ y < 7) → k_L_bound_27 Q dp (fun b0 b1 b2 b3 b4 b5 b6 b7 b8 S => P (b0, b1, b2, b3, b4, b5, b6, b7, b8, S)) r s (nI n) (nI a) (nI t) (nI y) e (nI (bdL E (sl n) a t y l)) (nI l) S := fun d1 => by
      unfold k_L_bound_27
      refine w_ne y 7 (fun c7 => h52 d1 (by omega)) (fun c7 => ?_)
      refine w_z l (fun c0 => h76 true (by unfold ofB; simp [c7, c0])) (fun c0 => ?_)
      refine pk_eq l 1 (fun c1 => h76 true (by unfold ofB; simp [c7, c1])) (fun c1 => ?_)
      exact pk_eq l 7 (fun e7 => h76 true (by unfold ofB; simp [c7, e7])) (fun e7 => h52 d1 (by omega))
    refine w_ne l y (fun d => h27 (by omega)) (fun d => ?_)
    exact pk_lt y 7 (fun f => h76 true (by unfold ofB; simp [d, f])) (fun f => h27 (by omega))
end
end LD
