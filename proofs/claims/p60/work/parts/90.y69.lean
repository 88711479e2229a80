/-! the class: documents that match are gathered -/
/-- what a document of a segment is given -/
noncomputable def vlN (nd : Nat → Nd) (m w0 w1 : Nat) (rr : Nat → Nat) (L : List Dc) (j : Nat) : Option Nat := evS nd (gvF nd m w0 w1 rr (fun i => mkA L (lfD nd m i) j)) m 0
def fndJ (f : Nat → Bool) (n : Nat) : Nat → List (Nat × Nat)
  | 0 => []
  | j + 1 => fndJ f n j ++ (if f j = true then [(n, j)] else [])
/-- the documents of a view of which f holds: their segments and places -/
def mtL (sg : Nat → List Dc) (f : Nat → Nat → Bool) (ids : List Nat) : List (Nat × Nat) := ids.flatMap (fun n => fndJ (f n) n (sg n).length)
theorem fndJ_len {f g : Nat → Bool} {n : Nat} (h : ∀ j, f j = true → g j = true) : ∀ k, (fndJ f n k).length ≤ cntB g k
  | 0 => Nat.le_refl _
  | k + 1 => by
    have := fndJ_len (n := n) h k
    rw [fndJ, List.length_append, cntB]
    by_cases c : f k = true
    · rw [if_pos c, if_pos (h k c)]; show _ + 1 ≤ _; omega
    · rw [if_neg c]; show _ + 0 ≤ _; omega
theorem mtL_take {sg : Nat → List Dc} {f : Nat → Nat → Bool} {ids : List Nat} {k n : Nat} (h : ids[k]? = some n) : mtL sg f (ids.take (k + 1)) = mtL sg f (ids.take k) ++ fndJ (f n) n (sg n).length := by
  unfold mtL
  rw [List.take_add_one, h, List.flatMap_append]
  show _ ++ ([n].flatMap _) = _
  rw [List.flatMap_cons, List.flatMap_nil, List.append_nil]
theorem mtL_len {sg : Nat → List Dc} {f lv : Nat → Nat → Bool} (h : ∀ n j, f n j = true → lv n j = true) : ∀ ids : List Nat, (mtL sg f ids).length ≤ allN sg lv ids
  | [] => Nat.le_refl _
  | n :: ids => by
    have := mtL_len (sg := sg) h ids
    have h2 := fndJ_len (n := n) (h n) (sg n).length
    unfold mtL at this ⊢
    rw [List.flatMap_cons, List.length_append]
    show _ ≤ cntB (lv n) (sg n).length + allN sg lv ids
    omega
theorem allN_take {sg : Nat → List Dc} {lv : Nat → Nat → Bool} {ids : List Nat} (k : Nat) : allN sg lv (ids.take k) ≤ allN sg lv ids := by
  have e : allN sg lv ids = allN sg lv (ids.take k) + allN sg lv (ids.drop k) := by
    unfold allN
    rw [← sumL_app, List.take_append_drop]
  omega
/-- a value is bound -/
theorem vl_lt {nd : Nat → Nd} {m w0 w1 : Nat} {rr mA : Nat → Nat} (hq : qOk nd m) (h1 : (qsS nd m).1 = 1) (hl : (lfI nd m).length ≤ 24) (hw : w0 ≤ 9 ∧ w1 ≤ 9) (hrr : ∀ i, rr i ≤ 102) : (evS nd (gvF nd m w0 w1 rr mA) m 0).getD 0 ≤ 1410048 := by
  have e := js_ev (G := 58752) hq (gv := gvF nd m w0 w1 rr mA) (fun i => by
    unfold gvF
    split
    · exact Nat.zero_le _
    · exact gvN_le hw.1 hw.2 (hrr i)) m (Nat.le_refl m)
  rw [h1] at e
  have e2 := js_le (v := evS nd (gvF nd m w0 w1 rr mA) m) (f := 0) (i := 0) (n := 1) (by decide)
  rw [Nat.zero_add] at e2
  have : 58752 * (lfI nd m).length ≤ 58752 * 24 := Nat.mul_le_mul_left _ hl
  omega
section MT
variable {S T U : cS} {ρ ρ' : Nat → Nat} {M : List Nat} {dp made V rd w0 w1 wr mo fo ro pl ra gi q m : Nat} {so : Nat → Nat} {sd : Nat → List Nat} {sg : Nat → List Dc} {ids : List Nat} {lv : Nat → Nat → Bool} {mk fs rw : Nat → Nat} {nd : Nat → Nd} {rr : Nat → Nat}
theorem rSt_tg (h : fk S T ρ ρ' M) (hM : [8, 11, 17, 19, 20].all (fun τ => !M.contains τ) = true) (hρ : ∀ a, a ∈ cL S → ρ' a = ρ a) (g : rSt S ρ dp so sd sg made V ids lv rd w0 w1 wr mo fo ro pl ra gi mk fs rw q m nd) : rSt T ρ' dp so sd sg made V ids lv rd w0 w1 wr mo fo ro pl ra gi mk fs rw q m nd := by
  have nM := nM_of hM
  obtain ⟨g1, g2, ⟨hl, mm, hs, g3⟩, g4, g5⟩ := g
  have gs := gSegs_fr h (nM 8 (by decide)) g1
  exact ⟨gs, g2, ⟨hl, mm, hs, gVx_fr h.1 (nM 11 (by decide)) (nM 11 (by decide)) gs g2 g3⟩, rdr_fr h.1 (nM 19 (by decide)) (nM 20 (by decide)) (fun a ha _ => hρ a ha) g4, gQy_fr h.1 (nM 17 (by decide)) (nM 17 (by decide)) (fun a ha e => (hρ a ha).trans e) g5⟩
theorem q_vatT {Q : Option Nat → cS → Prop} {k : Nat} (g : gVw S ρ dp so sd sg 11 11 V ids lv) (hk : k < ids.length) (h : ∀ y n r, ids[k]? = some n → hoT S y (so n) r (sg n).length (lv n) → ρ y = 11 → ρ r = 11 → Q (some y) S) : k_X10_at Q dp V (nI k) S := by
  obtain ⟨hl, mm, hs, g1, -, -, -, -, g6⟩ := g
  have hlen := vw_len g1
  obtain ⟨y, hy⟩ := get_ex (l := hs) (k := k) (by omega)
  obtain ⟨n, hn⟩ := get_ex hk
  obtain ⟨-, -, -, r, hr⟩ := g1.2.2.2.2 k y n hy hn
  obtain ⟨t1, t2⟩ := g6 y (List.mem_of_getElem? hy)
  exact q_vat g1 hy (h y n r hn hr t1 (t2 r hr.2.2.1))
/-- documents are put into a new list -/
def acc (T : cS) (ρ' : Nat → Nat) (dp a : Nat) (ws : List Nat) (wm cd dd : Nat) : Prop := lsT T dp a 0 ws wm ∧ (∀ z, lsF T dp a z → ρ' z = 36) ∧ 2 * wm ≤ 20 + 3 * ws.length ∧ cd ≤ 1 + wm / 5 ∧ dd ≤ 3 + 4 * wm
theorem acc_le {T : cS} {ws : List Nat} {a wm cd dd mc ms : Nat} (g : acc T ρ' dp a ws wm cd dd) (hl : ws.length ≤ 600) (hmc : 200 ≤ mc) (hms : 4000 ≤ ms) : cd ≤ mc ∧ dd ≤ ms := by
  obtain ⟨g1, g2, g3, g4, g5⟩ := g
  exact ⟨by omega, by omega⟩
theorem acc_fk {T T2 : cS} {ws : List Nat} {a wm cd dd : Nat} (h : fk T T2 ρ' ρ' M) (hM : 36 ∉ M) (g : acc T ρ' dp a ws wm cd dd) : acc T2 ρ' dp a ws wm cd dd := by
  obtain ⟨g1, g2, g3⟩ := g
  obtain ⟨l1, l2⟩ := fr_ls h.1 hM g1 g2
  exact ⟨l1, l2, g3⟩
theorem acc_add {T : cS} {ws : List Nat} {a D wm cd dd mc ms : Nat} (g : acc T ρ' dp a ws wm cd dd) (hl : ws.length ≤ 600) (hD : cA T D 0) (hdp : dpO dp T) (hρ : ∀ z, z ∉ cL T → ρ' z = 36) (hmc : 200 ≤ mc) (hms : 4000 ≤ ms) : (cd + (if ws.length = wm then 1 else 0) ≤ mc ∧ dd + (if ws.length = wm then gwL wm wm else 0) ≤ ms) ∧ ∀ Q : Int32 → cS → Prop, (∀ T2, fk T T2 ρ' ρ' [36] → acc T2 ρ' dp a (ws ++ [D]) (gwL wm ws.length) (cd + (if ws.length = wm then 1 else 0)) (dd + (if ws.length = wm then gwL wm wm else 0)) → Q (bI true) T2) → k_Jx4a65c_add_9ea2d Q dp (if ws.length = wm then 1 else 0) (if ws.length = wm then gwL wm wm else 0) a D T := by
  obtain ⟨g1, g2, g3, g4, g5⟩ := id g
  have h010 : wm = 0 ∨ 10 ≤ wm := by
    obtain ⟨-, -, -, -, -, -, b, -, w | w⟩ := g1
    · exact Or.inl w.2
    · exact Or.inr w.2.1
  obtain ⟨z1, z2, z3⟩ := gwL_le g1.2.2.1 g3 (Nat.le_refl _)
  obtain ⟨z4, z5⟩ := z3 h010
  refine ⟨⟨by omega, by omega⟩, fun Q h => q_ladd hdp g1 (by omega) hD (Nat.le_refl _) (Nat.le_refl _) (fun T2 v2 t2 => h T2 ?_ ⟨t2, fun z hz => ?_, ?_, by omega, by omega⟩)⟩
  · exact fk_of v2.1 (fun z _ hz => by rw [g2 z hz]; decide) (by decide)
  · rcases v2.2 z hz with w | w
    · exact g2 z w
    · exact hρ z w
  · rw [List.length_append]; exact z1
theorem q_matched {Q : Nat → cS → Prop} {mc ms : Nat} (g : rSt S ρ dp so sd sg made V ids lv rd w0 w1 wr mo fo ro pl ra gi mk fs rw q m nd) (hq : qOk nd m) (hl : (lfI nd m).length ≤ 24) (h1 : (qsS nd m).1 = 1) (hm : m < 100) (hw : w0 ≤ 9 ∧ w1 ≤ 9) (hrr : ∀ i, rr i ≤ 102) (hra : ∀ i, i < 24 → cI S ra i = nI (rr i)) (hW : ∀ n, n ∈ ids → tkW (sg n)) (hall : allN sg lv ids ≤ 600) (hdp : dpO dp S) (hmc : 200 ≤ mc) (hms : 4000 ≤ ms) (h : ∀ T ρ' a ws wm, fk S T ρ ρ' [36, 80, 18, 22, 23, 24, 25, 27] → (∀ a, a ∈ cL S → ρ' a = ρ a) → lsT T dp a 0 ws wm → parL (fun D x => (sd x.1)[x.2]? = some D) ws (mtL sg (fun n j => lv n j && (vlN nd m w0 w1 rr (sg n) j).isSome) ids) → Q a T) : k_X7_matched Q dp mc ms rd V q S := by
  obtain ⟨f, hf⟩ : ∃ f : Nat → Nat → Bool, f = fun n j => lv n j && (vlN nd m w0 w1 rr (sg n) j).isSome := ⟨_, rfl⟩
  rw [← hf] at h
  have flv : ∀ n j, f n j = true → lv n j = true := fun n j e => by rw [hf] at e; exact (Bool.and_eq_true_iff.mp e).1
  unfold k_X7_matched
  refine ⟨⟨by omega, by omega⟩, fun a ha S2 e2 => ⟨⟨by omega, by omega⟩, q_newList ha e2 hdp (kk := 0) (Or.inl rfl) (fun S3 s3 l3 => ?_)⟩⟩
  obtain ⟨ρ', hρ'⟩ : ∃ r : Nat → Nat, r = rtg S id ρ 36 := ⟨_, rfl⟩
  have o' : ∀ z, z ∈ cL S → ρ' z = ρ z := fun z hz => by rw [hρ']; exact rtg_o hz
  have n' : ∀ z, z ∉ cL S → ρ' z = 36 := fun z hz => by rw [hρ']; exact rtg_n hz
  have f3 : fk S S3 ρ ρ' [] := fr_fk ⟨sub_wk s3 (fun _ _ z => z.elim), fun z hz _ => o' z hz⟩ (by decide)
  have g3 := rSt_tg f3 (by decide) o' g
  have in3 : ∀ z, z ∈ cL S → z ∈ cL S3 := fun z hz => (s3 z hz).1.1
  have a0 : acc S3 ρ' dp a [] 0 1 3 := by
    refine ⟨l3, fun z hz => ?_, by decide, by decide, by decide⟩
    rcases hz with rfl | ⟨hz, hne⟩
    · exact n' _ ha
    · obtain ⟨-, -, -, -, -, -, b, hb, w | w⟩ := l3
      · exact absurd ((Option.some.inj (hb.symm.trans hz)).symm.trans w.1) hne
      · exact absurd w.2.1 (by decide)
  have hra3 : ∀ i, i < 24 → cI S3 ra i = nI (rr i) := fun i hi => by
    rw [sub_cI s3 g.2.2.2.1.2.2.2.2.2.2.2.1.2.1 (fun z => z)]; exact hra i hi
  -- what is written behind this
  have fin : ∀ {U : cS}, fk S3 U ρ' ρ' [36, 80, 18, 22, 23, 24, 25, 27] → fk S U ρ ρ' [36, 80, 18, 22, 23, 24, 25, 27] := fun fU => fk_tr (fk_wk f3 (fun τ hτ => absurd hτ List.not_mem_nil)) fU (fun z hz hin => by rw [← o' z hz]; exact hin)
  have dpU : ∀ {U : cS}, fk S3 U ρ' ρ' [36, 80, 18, 22, 23, 24, 25, 27] → dpO dp U ∧ ∀ z, z ∉ cL U → ρ' z = 36 := fun fU => ⟨dp_O, fun z hz => n' z (fun w => hz (fU.1.1 z (in3 z w)).1.1)⟩
  have R : ∀ {l : List (Nat × Nat)} {ws : List Nat}, parL (fun D (x : Nat × Nat) => (sd x.1)[x.2]? = some D) ws l → ws.length = l.length := fun h => parL_len h
  unfold k_X7_matched_11L
  refine lfp_cnt ids.length (fun k y => ∃ S' ws wm cd dd, fk S3 S' ρ' ρ' [36, 80, 18, 22, 23, 24, 25, 27] ∧ acc S' ρ' dp a ws wm cd dd ∧ parL (fun D (x : Nat × Nat) => (sd x.1)[x.2]? = some D) ws (mtL sg f (ids.take k)) ∧ (∀ i, i < 24 → cI S' ra i = nI (rr i)) ∧ y = (rd, V, q, a, nI k, cd, dd, S')) ?_ ⟨S3, [], 0, 1, 3, fk_rf, a0, trivial, hra3, rfl⟩
  rintro P k _ hk ⟨S', ws, wm, cd, dd, f', a', hp, hr', rfl⟩ ih
  show k_X7_matched_11 Q dp mc ms _ rd V q a (nI k) cd dd S'
  have g' := rSt_fk f' (by decide) g3
  obtain ⟨gs, hid, gv, gr, gq⟩ := id g'
  have i8 : ids.length < 8000 := (rSt_bd g').2.1
  have wl : ws.length ≤ 600 := by
    rw [R hp]
    exact Nat.le_trans (mtL_len flv _) (Nat.le_trans (allN_take k) hall)
  unfold k_X7_matched_11
  refine ⟨(g_vA gv).1, acc_le a' wl hmc hms, g_vsize gv (pk_le ids.length k (fun z => ⟨acc_le a' wl hmc hms, ?_⟩) (fun z => ⟨(g_vA gv).1, acc_le a' wl hmc hms, q_vatT gv z (fun y n r hn ho ty tr => ⟨fun w => absurd w (by simp), fun b hb => ?_⟩)⟩))⟩
  · obtain rfl : k = ids.length := by omega
    rw [List.take_length] at hp
    exact h S' ρ' a ws wm (fin f') o' a'.1 hp
  obtain rfl := Option.some.inj hb
  have hnm := List.mem_of_getElem? hn
  have gS := gs n (hid n hnm)
  have hK : (sg n).length ≤ 100 := gS.2.2.2.2.2.1
  refine ⟨ho.1, so n, ho.2.1, gr.1, acc_le a' wl hmc hms, q_readSegment gr gq hq hl gS (hW n hnm) (fun S4 f4 h4 => ?_)⟩
  have f4' : fk S' S4 ρ' ρ' [36, 80, 18, 22, 23, 24, 25, 27] := fk_up f4 (by decide)
  have tot : ∀ j, j ≤ (sg n).length → (mtL sg f (ids.take k) ++ fndJ (f n) n j).length ≤ 600 := fun j hj => by
    have e1 := mtL_len (sg := sg) flv (ids.take (k + 1))
    have e2 := allN_take (sg := sg) (lv := lv) (ids := ids) (k + 1)
    rw [mtL_take hn, List.length_append] at e1
    have e3 : (fndJ (f n) n j).length ≤ (fndJ (f n) n (sg n).length).length := by
      have : ∀ d, (fndJ (f n) n j).length ≤ (fndJ (f n) n (j + d)).length := fun d => by
        induction d with
        | zero => exact Nat.le_refl _
        | succ d ih => rw [← Nat.add_assoc, fndJ, List.length_append]; omega
      have := this ((sg n).length - j)
      rwa [show j + ((sg n).length - j) = (sg n).length by omega] at this
    rw [List.length_append]; omega
  unfold k_X7_matched_46L
  refine lfp_cnt (sg n).length (fun j y' => ∃ S2 ws wm cd dd, fk S4 S2 ρ' ρ' [36, 80, 18, 27] ∧ acc S2 ρ' dp a ws wm cd dd ∧ parL (fun D (x : Nat × Nat) => (sd x.1)[x.2]? = some D) ws (mtL sg f (ids.take k) ++ fndJ (f n) n j) ∧ y' = (rd, V, q, a, nI k, y, nI j, cd, dd, S2)) ?_ ⟨S4, ws, wm, cd, dd, fk_rf, acc_fk f4 (by decide) a', by rw [fndJ, List.append_nil]; exact hp, rfl⟩
  clear hp wl
  rintro P2 j _ hj ⟨S2, ws, wm, cd, dd, f2, a2, hp, rfl⟩ ih2
  show k_X7_matched_46 Q dp mc ms _ _ rd V q a (nI k) y (nI j) cd dd S2
  have f2' : fk S' S2 ρ' ρ' [36, 80, 18, 22, 23, 24, 25, 27] := fk_s f4' (fk_up f2 (by decide))
  have g2 := rSt_fk f2' (by decide) g'
  obtain ⟨gs2, -, gv2, gr2, gq2⟩ := id g2
  have gS2 := gs2 n (hid n hnm)
  have wl : ws.length ≤ 600 := by rw [R hp]; exact tot j hj
  have bd := acc_le a2 wl hmc hms
  have ho2 : hoT S2 y (so n) r (sg n).length (lv n) := hoT_sub f2'.1.1 ho (by rw [ty]; decide) (by rw [tr]; decide)
  have ra2 : ∀ i, i < 24 → cI S2 ra i = nI (rr i) := fun i hi => by
    rw [sub_cI f2'.1.1 gr.2.2.2.2.2.2.2.1.2.1 (by rw [gr.2.2.2.2.2.2.2.1.2.2.2]; decide)]; exact hr' i hi
  have stop : ∀ {S5 : cS} {w5 : List Nat} {m5 c5 d5 : Nat}, fk S2 S5 ρ' ρ' [36, 80, 18, 27] → j < (sg n).length → acc S5 ρ' dp a w5 m5 c5 d5 → parL (fun D (x : Nat × Nat) => (sd x.1)[x.2]? = some D) w5 (mtL sg f (ids.take k) ++ fndJ (f n) n (j + 1)) → k_X7_matched_101 Q dp mc ms (fun b0 b1 b2 b3 b4 b5 b6 S => P (b0, b1, b2, b3, b4, b5, b6, S)) (fun b0 b1 b2 b3 b4 b5 b6 b7 b8 S => P2 (b0, b1, b2, b3, b4, b5, b6, b7, b8, S)) rd V q a (nI k) y (nI j) c5 d5 S5 := by
    intro S5 w5 m5 c5 d5 f5 hj2 a5 h5
    unfold k_X7_matched_101
    rintro _ rfl
    rw [nI_add]
    exact ih2 _ hj2 ⟨S5, w5, m5, c5, d5, fk_s f2 f5, a5, h5, rfl⟩
  unfold k_X7_matched_46
  refine ⟨ho2.1, so n, ho2.2.1, gS2.1.1, bd, q_sgSize gS2.1 (pk_le (sg n).length j (fun z2 => ?_) (fun z2 => ⟨ho2.1, bd, q_isLive ho2 (by omega) ?_⟩))⟩
  · obtain rfl : j = (sg n).length := by omega
    unfold k_X7_matched_107
    rintro _ rfl
    rw [nI_add]
    refine ih _ z ⟨S2, ws, wm, cd, dd, fk_s f' f2', a2, by rw [mtL_take hn]; exact hp, ra2, rfl⟩
  · rw [decide_eq_true z2, Bool.true_and]
    refine w_b0 (lv n j) (fun e => stop fk_rf z2 a2 ?_) (fun e => ⟨gr2.1, bd, q_valueAt (rr := rr) (mA := fun i => mkA (sg n) (lfD nd m i) j) gr2 gq2 hq h1 hl (by decide) (by decide) hm hw hrr (by omega) (fun i hi => ?_) (fun i hi => ra2 i (by omega)) (fun S5 s5 => ?_)⟩)
    · rw [fndJ, show f n j = false by rw [hf]; show (lv n j && _) = false; rw [e, Bool.false_and], if_neg (by decide), List.append_nil]; exact hp
    · obtain ⟨m1, m2, m3, m4, m5, m6⟩ := gr.2.2.2.1
      obtain ⟨b1, b2, b3, b4⟩ := m5 i (by omega)
      have sm : cI S2 (mk i) = cI S4 (mk i) := sub_cI f2.1.1 (sub_A1 f4.1.1 b2) (by rw [b4]; decide)
      rw [sm]
      refine ⟨(h4 i hi j z2).1, ?_⟩
      have okL : ∀ d, d ∈ sg n → okD d := gS.2.2.2.2.1
      show mkA (sg n) (lfD nd m i) j < 2 ^ 20
      unfold mkA
      split
      · exact cpF_lt
      · exact tdK_lt (tlD_ok okL _ _).1.2.1
    · have f5 : fk S2 S5 ρ' ρ' [36, 80, 18, 27] := fk_up (fr_fk s5 (by decide)) (by decide)
      have a5 := acc_fk (fr_fk s5 (by decide)) (by decide) a2
      have ev : evS nd (gvF nd m w0 w1 rr (fun i => mkA (sg n) (lfD nd m i) j)) m 0 = vlN nd m w0 w1 rr (sg n) j := rfl
      have vb := vl_lt (mA := fun i => mkA (sg n) (lfD nd m i) j) hq h1 hl hw hrr
      rw [ev] at vb ⊢
      refine ⟨fun e2 => stop f5 z2 a5 ?_, fun e2 => ?_⟩
      · have e3 := (cIn_ne (by omega)).mp e2
        rw [fndJ, show f n j = false by rw [hf]; show (_ && (vlN nd m w0 w1 rr (sg n) j).isSome) = false; rw [e3, Bool.and_comm]; rfl, if_neg (by decide), List.append_nil]; exact hp
      · have hs : (vlN nd m w0 w1 rr (sg n) j).isSome = true := by
          cases e3 : vlN nd m w0 w1 rr (sg n) j with
          | none => exact absurd ((cIn_ne (by omega)).mpr e3) e2
          | some v => rfl
        have g5 := rSt_fk (fk_s f2' (fk_up f5 (by decide))) (by decide) g'
        obtain ⟨gs5, -, gv5, gr5, gq5⟩ := id g5
        have gS5 := gs5 n (hid n hnm)
        obtain ⟨q1, q2, q3, ⟨dl, md, q4, q5⟩, q6⟩ := id gS5.1
        have ho5 : hoT S5 y (so n) r (sg n).length (lv n) := hoT_sub f5.1.1 ho2 (by rw [ty]; decide) (by rw [tr]; decide)
        obtain ⟨D, hD⟩ := get_ex (l := sd n) (k := j) (by omega)
        obtain ⟨dd', hd'⟩ := get_ex (l := sg n) (k := j) z2
        have DA := (q6 j D dd' hD hd').1
        obtain ⟨dp5, np5⟩ := dpU (fk_s f' (fk_s f2' (fk_up f5 (by decide))))
        obtain ⟨⟨b1, b2⟩, b3⟩ := acc_add a5 wl DA dp5 np5 hmc hms
        refine ⟨ho5.1, so n, ho5.2.1, q1, dl, q4, q5.1, bd, q_lget q5 hD ⟨DA, a5.1.1, _, _, b1, b2, b3 _ (fun T2 f6 a6 => ?_)⟩⟩
        refine stop (fk_s f5 (fk_up f6 (by decide))) z2 a6 ?_
        rw [fndJ, show f n j = true by rw [hf]; show (lv n j && (vlN nd m w0 w1 rr (sg n) j).isSome) = true; rw [e, hs]; rfl, if_pos rfl, ← List.append_assoc]
        exact parL_snoc hp hD
end MT
