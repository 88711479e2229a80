/-! the class: the buffer is flushed -/
section FL
variable {S T : cS} {ρ ρ' : Nat → Nat} {dp x fd w made V : Nat} {B : List Dc} {so : Nat → Nat} {sd : Nat → List Nat} {sg : Nat → List Dc} {cc : Option Nat} {ids l : List Nat} {lv : Nat → Nat → Bool}
theorem fr_mix {M : List Nat} {U : cS} {r r' r'' : Nat → Nat} (h1 : fr S T r r' M) (h2 : fr T U r' r'' M) : fr S U r r'' M := by
  refine fr_tr h1 h2 (fun a ha hin => ?_)
  by_cases c : r a ∈ M
  · exact c
  · rw [h1.2 a ha c] at hin; exact hin
theorem fr_up {M N : List Nat} {r r' : Nat → Nat} (h : fr S T r r' M) (hM : (M.all (fun τ => N.contains τ)) = true) : fr S T r r' N := fr_wk h (fun τ hτ => List.contains_iff_mem.mp (List.all_eq_true.mp hM τ hτ))
/-- a holding is put into the index -/
theorem g_vput {Q : cS → Prop} {hl m k y r n mc ms made : Nat} {hs : List Nat} (g : gVx S ρ dp so sd sg 9 10 V hl m hs ids lv) (gs : gSegs S ρ dp so sd sg made) (hid : ∀ n, n ∈ ids → n < made) (hn : n < made) (hm1 : made < 1000) (hdp : dpO dp S) (hk : k ≤ ids.length) (hlen : ids.length ≤ 300) (gy : hoT S y (so n) r (sg n).length (lv n)) (ty : ρ y = 10) (tr : ρ r = 10) (hfr : ∀ z, z ∈ hs → cr S 65 z ≠ some r) (hm : 1 ≤ mc) (hms : 460 ≤ ms) (h : ∀ T, fr S T ρ (rtg S id ρ 9) [9] → gVw T (rtg S id ρ 9) dp so sd sg 9 10 V (ids.take k ++ n :: ids.drop k) lv → Q T) : k_X10_put Q dp mc ms V (nI k) y S := by
  obtain ⟨u1, u2, u3, u4, u5, u6⟩ := id g
  have ulen := vw_len u1
  have gw : hs.length = m → gwL m m ≤ 460 := fun e => by
    unfold gwL
    rw [if_pos rfl]
    split <;> omega
  have hS : ∀ T, cSub S T (lsF S dp hl) → ∀ n', n' = n ∨ n' ∈ ids → sgT S dp (so n') n' (sd n') (sg n') → sgT T dp (so n') n' (sd n') (sg n') := by
    intro T sT n' hn' g'
    have hlt : n' < made := by
      rcases hn' with e | e
      · omega
      · exact hid n' e
    have f : fr S T ρ ρ [9] := ⟨sub_wk sT (fun z _ hz => by rw [u5 z hz]; decide), fun _ _ _ => rfl⟩
    exact (gSg_fr (fr_fk f (by decide)) (by decide) (gs n' hlt)).1
  have gN := gs n hn
  refine q_vput u1 hdp hk (by omega) gy gN.1 gN.2.2.2.2.2.1 (by omega) hS (by split <;> omega) (by split <;> omega) (fun T v t => ?_)
  have f : fr S T ρ (rtg S id ρ 9) [9] := ⟨sub_wk v.1 (fun z _ hz => by rw [u5 z hz]; decide), fun a ha _ => rtg_o ha⟩
  have nF : ∀ {a : Nat}, cA S a 2 → cr T 65 a = cr S 65 a := by
    intro a ha
    refine sub_cr v.1 ha (fun hz => ?_)
    obtain ⟨m1, -, -, -, -, -, c, hc, hx'⟩ := u1.2.2.1
    rcases hz with w | ⟨w, w2⟩
    · exact cA_ne ha m1 (by decide) w
    · obtain rfl : c = a := Option.some.inj (hc.symm.trans w)
      rcases hx' with hx' | hx'
      · exact w2 hx'.1
      · exact cA_ne hx'.2.2.1 ha (by decide) rfl
  have yA : ∀ {z : Nat}, z ∈ hs → cA S z 2 := fun hz => u1.2.2.1.2.2.2.2.2.1 _ hz
  have hkl : k ≤ hs.length := by omega
  have gwb : gwL m hs.length ≤ 620 := by
    unfold gwL
    split
    · split <;> omega
    · exact u2
  have inL : ∀ {z : Nat}, z ∈ hs.take k ++ y :: hs.drop k → z = y ∨ z ∈ hs := fun {z} hz => by
    rcases List.mem_append.mp hz with w | w
    · exact Or.inr (List.mem_of_mem_take w)
    · rcases List.mem_cons.mp w with u | u
      · exact Or.inl u
      · exact Or.inr (List.mem_of_mem_drop u)
  have yr : cr T 65 y = some r := (nF gy.1).trans gy.2.2.1
  refine h T f ⟨hl, _, _, t, gwb, fun i j a b c hi hj ha hb => ?_, fr_tg f u1.1.1 u4 (by decide), fun z hz => ?_, fun z hz => ?_⟩
  · have old : ∀ {i : Nat} {a : Nat}, hs[i]? = some a → cr T 65 a = cr S 65 a := fun hi => nF (yA (List.mem_of_getElem? hi))
    rcases (insA_get hkl).mp hi with ⟨a1, a2⟩ | ⟨a1, a2⟩ | ⟨a1, a2⟩
    · rw [old a2] at ha
      rcases (insA_get hkl).mp hj with ⟨b1, b2⟩ | ⟨b1, b2⟩ | ⟨b1, b2⟩
      · rw [old b2] at hb; exact u3 i j a b c a2 b2 ha hb
      · rw [b2, yr] at hb
        exact absurd (Option.some.inj hb ▸ ha) (hfr a (List.mem_of_getElem? a2))
      · rw [old b2] at hb
        have := u3 i (j - 1) a b c a2 b2 ha hb; omega
    · rw [a2, yr] at ha
      rcases (insA_get hkl).mp hj with ⟨b1, b2⟩ | ⟨b1, b2⟩ | ⟨b1, b2⟩
      · rw [old b2] at hb
        exact absurd (Option.some.inj ha ▸ hb) (hfr b (List.mem_of_getElem? b2))
      · omega
      · rw [old b2] at hb
        exact absurd (Option.some.inj ha ▸ hb) (hfr b (List.mem_of_getElem? b2))
    · rw [old a2] at ha
      rcases (insA_get hkl).mp hj with ⟨b1, b2⟩ | ⟨b1, b2⟩ | ⟨b1, b2⟩
      · rw [old b2] at hb
        have := u3 (i - 1) j a b c a2 b2 ha hb; omega
      · rw [b2, yr] at hb
        exact absurd (Option.some.inj hb ▸ ha) (hfr a (List.mem_of_getElem? a2))
      · rw [old b2] at hb
        have := u3 (i - 1) (j - 1) a b c a2 b2 ha hb; omega
  · rcases v.2 z hz with w | w
    · exact (rtg_o (lsF_in u1.2.2.1 w)).trans (u5 z w)
    · exact rtg_n w
  · rcases inL hz with e | e
    · rw [e]
      refine ⟨(rtg_o gy.1.1).trans ty, fun c hc => ?_⟩
      rw [yr] at hc
      obtain rfl := Option.some.inj hc
      exact (rtg_o gy.2.2.2.1.1).trans tr
    · refine ⟨(rtg_o (yA e).1).trans (u6 z e).1, fun c hc => ?_⟩
      rw [nF (yA e)] at hc
      exact (rtg_o ((gVx_in g e).2 c hc)).trans ((u6 z e).2 c hc)
set_option maxHeartbeats 2000000 in
theorem g_flush {Q : Int32 → cS → Prop} {mc ms : Nat} (hx : cA S x 11) (hρ : ρ x = 1) (gb : gBf S ρ dp x B) (gn : gSn S ρ dp x l) (hf : cr S 365 x = some fd) (fA : cA S fd 1) (fρ : ρ fd = 21) (hdp : dpO dp S) (h368 : ci S 368 x = nI w) (h369 : ci S 369 x = cIn cc) (hcc : ∀ k, cc = some k → k ≤ 1000) (h366 : ci S 366 x = nI made) (hmade : made < 900) (e355 : cr S 355 x = some V) (gs : gSegs S ρ dp so sd sg made) (gv : gVw S ρ dp so sd sg 9 10 V ids lv) (hid : ∀ n, n ∈ ids → n < made) (hlen : ids.length ≤ 300) (hm : 610 * B.length + 30 ≤ mc) (hs : 7000 * B.length + 1200 ≤ ms)
    (h1 : ∀ T ρ' A ds, (∀ k, cc = some k → B.length + 1 ≤ k) → fr S T ρ ρ' [1, 7, 9, 81, 84] → gSegs T ρ' dp (upR so made A) (upR sd made ds) (upR sg made B) (made + 1) → gVw T ρ' dp (upR so made A) (upR sd made ds) (upR sg made B) 9 10 V (ids ++ [made]) (fun n j => if n = made then true else lv n j) → gBf T ρ' dp x [] → ci T 366 x = nI (made + 1) → ci T 368 x = nI (w + (B.length + 1)) → ci T 369 x = cIn (cc.map (fun k => k - (B.length + 1))) → (∀ q, q ∉ [366, 368, 369] → ci T q x = ci S q x) → (∀ q, cr T q x = cr S q x) → ρ' x = 1 → Q (nI made) T)
    (h2 : ∀ U ρ' j, j ≤ B.length → cc = some j → dnT S U ρ ρ' dp so sd sg x fd (w + j) → Q (-2) U) : k_X11_flushBuffer Q dp mc ms x S := by
  obtain ⟨b, bs, bm, b1, b2, b3, b4, b5, b6, b7⟩ := id gb
  unfold k_X11_flushBuffer
  refine ⟨hx, b, b1, b2.1, ⟨by omega, by omega⟩, q_lsize b2 ?_⟩
  rw [nI_add, b5]
  rintro _ rfl
  unfold k_X11_flushBuffer_12L
  refine lfp_cnt (B.length + 1) (fun k y => ∃ S', wrT S S' ρ x w cc k ∧ y = (x, nI (B.length + 1), nI k, 0, 0, S')) ?_ ⟨S, wrT_0 h368 h369, rfl⟩
  rintro P k _ hk ⟨S', hw, rfl⟩ ih
  show k_X11_flushBuffer_12 Q dp mc ms _ x (nI (B.length + 1)) (nI k) 0 0 S'
  obtain ⟨f0, wi, wr, w368, w369, wk⟩ := id hw
  have x0 := fr_A f0 hx
  unfold k_X11_flushBuffer_12
  refine pk_le (B.length + 1) k (fun z => ?_) (fun z => ⟨x0, (if cc = some k then 2 else 0), (if cc = some k then 5 else 0), by split <;> omega, by split <;> omega, g_doWrite (so := so) (sd := sd) (sg := sg) hx hρ gb gn hf fA fρ hdp hw hcc (fun e => by rw [if_pos e]; exact Nat.le_refl _) (fun e => by rw [if_pos e]; exact Nat.le_refl _) (fun U hlt hU => ⟨fun _ => ?_, fun c => absurd c (by decide)⟩) (fun U ρ' hc hU => ⟨fun c => absurd rfl c, fun _ => ⟨by split <;> omega, h2 U ρ' k (by omega) hc hU⟩⟩)⟩)
  rotate_left
  · have hne : cc ≠ some k := fun e => absurd (hlt k e) (Nat.lt_irrefl k)
    rintro _ rfl
    rw [nI_add, if_neg hne, if_neg hne]
    exact ih _ z ⟨U, hU, rfl⟩
  obtain rfl : k = B.length + 1 := by omega
  clear ih hk z
  obtain ⟨b2', b3'⟩ := fr_ls f0 (by decide) b2 b3
  have b7' : ∀ (i D : Nat) (d : Dc), bs[i]? = some D → B[i]? = some d → gFz S' ρ D d := fun i D d hi hd => gFz_fr f0 (by decide) (b7 i D d hi hd).1
  have hok : ∀ d, d ∈ B → okD d := fun d hd => by
    obtain ⟨i, hi⟩ := List.getElem?_of_mem hd
    obtain ⟨D, hD⟩ := get_ex (l := bs) (k := i) (by have := get_lt hi; omega)
    exact (b7 i D d hD hi).2
  have r0 : ∀ q, cr S' q x = cr S q x := wr
  have gs0 := gSegs_fr (fr_fk f0 (by decide)) (by decide) gs
  have gv0 := gVw_fr f0 (by decide) (by decide) gs0 hid gv
  have dp0 : dpO dp S := dp_O
  refine ⟨x0, b, (r0 _).trans b1, x0, bs.length + 6, 6 * bs.length + 53, by omega, by omega, ?_⟩
  refine q_newSegment x0 hρ dp0 ((wi _ (by decide)).trans h366) b2' (by omega) (Nat.le_refl _) (Nat.le_refl _) (fun S7 ρ7 A w0 w1 f7 nA sN l0 l1 t0 t1 c366 ci7 cr7 ρx7 => ?_)
  have x7 := fr_A f7 x0
  have d7 : ∀ (i D : Nat) (d : Dc), bs[i]? = some D → B[i]? = some d → gFz S7 ρ7 D d := fun i D d hi hd => gFz_fr f7 (by decide) (b7' i D d hi hd)
  refine ⟨sN.1, 300 * B.length + 2, 3480 * B.length + 40, by omega, by omega, ?_⟩
  have key : ∀ (S13 : cS) (ρ13 : Nat → Nat), fr S7 S13 ρ7 ρ13 [81, 84] → gSg S13 ρ13 dp A made bs B → cA S13 x 11 ∧ ∃ b14 : Nat, cr S13 355 x = some b14 ∧ (cA S13 x 11 ∧ ∃ b15 : Nat, cr S13 355 x = some b15 ∧ (cA S13 b15 10 ∧ ((0 + (bs.length + 6) + (300 * B.length + 2) + (300 * B.length + 2) ≤ mc ∧ 0 + (6 * bs.length + 53) + (3480 * B.length + 40) + (3480 * B.length + 40) ≤ ms) ∧ k_X10_size (fun r_16 S_16 => (0 + (bs.length + 6) + (300 * B.length + 2) + (300 * B.length + 2) + 1 ≤ mc ∧ 0 + (6 * bs.length + 53) + (3480 * B.length + 40) + (3480 * B.length + 40) + 2 ≤ ms) ∧ ∀ q17 : Nat, q17 ∉ cL S_16 → ∀ S18 : cS, S18 = cNew S_16 q17 2 → ∃ mc19 ms20 : Nat, 0 + (bs.length + 6) + (300 * B.length + 2) + (300 * B.length + 2) + 1 + mc19 ≤ mc ∧ 0 + (6 * bs.length + 53) + (3480 * B.length + 40) + (3480 * B.length + 40) + 2 + ms20 ≤ ms ∧ k_X2_init (fun S_21 => cA S_21 b14 10 ∧ ∃ mc22 ms23 : Nat, 0 + (bs.length + 6) + (300 * B.length + 2) + (300 * B.length + 2) + 1 + mc19 + mc22 ≤ mc ∧ 0 + (6 * bs.length + 53) + (3480 * B.length + 40) + (3480 * B.length + 40) + 2 + ms20 + ms23 ≤ ms ∧ k_X10_put (fun S_24 => cA S_24 x 11 ∧ ∃ b25 : Nat, cr S_24 354 x = some b25 ∧ (cA S_24 b25 12 ∧ ((0 + (bs.length + 6) + (300 * B.length + 2) + (300 * B.length + 2) + 1 + mc19 + mc22 ≤ mc ∧ 0 + (6 * bs.length + 53) + (3480 * B.length + 40) + (3480 * B.length + 40) + 2 + ms20 + ms23 ≤ ms) ∧ k_Jx4a65c_clear_da8c8 (fun S_26 => cA S_26 A 8 ∧ ((0 + (bs.length + 6) + (300 * B.length + 2) + (300 * B.length + 2) + 1 + mc19 + mc22 ≤ mc ∧ 0 + (6 * bs.length + 53) + (3480 * B.length + 40) + (3480 * B.length + 40) + 2 + ms20 + ms23 ≤ ms) ∧ Q (ci S_26 256 A) S_26)) dp b25 S_24))) dp mc22 ms23 b14 r_16 q17 S_21) dp mc19 ms20 q17 A S18) dp b15 S13))) := by
    intro S13 ρ13 f13 gS13
    have x13 := fr_A f13 x7
    have nx7 : ρ7 x ∉ [81, 84] := by rw [ρx7]; decide
    have r13 : ∀ q, cr S13 q x = cr S q x := fun q => (fr_cr f13 x7 nx7).trans ((cr7 q).trans (r0 q))
    have ρx13 := fr_tg f13 x7.1 ρx7 (by decide)
    have F13 : fr S' S13 ρ ρ13 [1, 81, 84] := fr_mix (fr_up f7 rfl) (fr_up f13 rfl)
    have gs13 := gSegs_fr (fr_fk F13 (by decide)) (by decide) gs0
    have gv13 := gVw_fr F13 (by decide) (by decide) gs13 hid gv0
    have gsN := gSegs_new gs13 gS13
    have hne : ∀ m, m ∈ ids → m ≠ made := fun m hm => by have := hid m hm; omega
    have gvN := gVw_ext (so' := upR so made A) (sd' := upR sd made bs) (sg' := upR sg made B) (fun m hm => ⟨upR_n (hne m hm), upR_n (hne m hm), upR_n (hne m hm)⟩) gv13
    obtain ⟨hl, vm, hs', gx⟩ := gvN
    have v1 := gx.1
    have hV : cr S13 355 x = some V := (r13 _).trans e355
    refine ⟨x13, V, hV, x13, V, hV, v1.1, ⟨by omega, by omega⟩, q_vsize v1 ⟨⟨by omega, by omega⟩, fun q17 hq17 S18 e18 => ⟨1, B.length, by omega, by omega, ?_⟩⟩⟩
    have s18 : cSub S13 S18 (fun _ => False) := e18 ▸ sub_N hq17
    have nf : ¬ False := fun z => z
    have sgA18 := sgT_sub s18 gS13.1 nf (fun _ _ _ _ => nf) (fun _ _ => nf)
    refine q_hoInit ⟨hm_No e18, hk_No e18⟩ sgA18 gS13.2.2.2.2.2.1 (Nat.le_refl _) (Nat.le_refl _) (fun S21 q s21 hq gh => ?_)
    have s1321 : cSub S13 S21 (fun _ => False) := sub_tr s18 s21 (fun a ha z => absurd z (cm_nq hq17 ha))
    have hqS : q ∉ cL S13 := fun z => hq (s18 q z).1.1
    obtain ⟨ρ21, hρ21⟩ : ∃ r, r = rtg S13 id ρ13 10 := ⟨_, rfl⟩
    have f21 : fr S13 S21 ρ13 ρ21 [] := ⟨sub_wk s1321 (fun _ _ z => z.elim), fun a ha _ => by rw [hρ21]; exact rtg_o ha⟩
    have gs21 := gSegs_fr (fr_fk f21 (by decide)) (by decide) gsN
    have hid1 : ∀ n, n ∈ ids → n < made + 1 := fun n hn => by have := hid n hn; omega
    have ux := gVx_fr f21 (by decide) (by decide) gs21 hid1 gx
    have x21 := fr_A f21 x13
    -- the live ones: all of the new segment
    have lvE : gVx S21 ρ21 dp (upR so made A) (upR sd made bs) (upR sg made B) 9 10 V hl vm hs' ids (fun n j => if n = made then true else lv n j) := by
      obtain ⟨⟨a1, a2, a3, a4, a5⟩, ur⟩ := ux
      refine ⟨⟨a1, a2, a3, a4, fun i y n hi hn => ?_⟩, ur⟩
      have : (fun j => if n = made then true else lv n j) = lv n := by
        funext j
        rw [if_neg (hne n (List.mem_of_getElem? hn))]
      obtain ⟨c1, c2, c3, r, c4⟩ := a5 i y n hi hn
      refine ⟨c1, c2, c3, r, ?_⟩
      show hoT S21 y (upR so made A n) r (upR sg made B n).length (fun j => if n = made then true else lv n j)
      rw [this]; exact c4
    have gh' : hoT S21 q17 (upR so made A made) q (upR sg made B made).length ((fun n j => if n = made then true else lv n j) made) := by
      rw [upR_s, upR_s]
      have : (fun n j => if n = made then true else lv n j) made = (fun _ => true) := by
        funext j
        exact if_pos rfl
      rw [this]; exact gh
    have hfr : ∀ z, z ∈ hs' → cr S21 65 z ≠ some q := fun z hz e => by
      have zin := gVx_in gx hz
      have zA : cA S13 z 2 := gx.1.2.2.1.2.2.2.2.2.1 z hz
      rw [sub_cr s1321 zA nf] at e
      exact hqS (zin.2 q e)
    have tq : ρ21 q17 = 10 := by rw [hρ21]; exact rtg_n hq17
    have tr : ρ21 q = 10 := by rw [hρ21]; exact rtg_n hqS
    refine ⟨ux.1.1, 1, 460, by omega, by omega, ?_⟩
    refine g_vput (k := ids.length) lvE gs21 hid1 (Nat.lt_succ_self made) (by omega) dp_O (Nat.le_refl _) hlen gh' tq tr hfr (Nat.le_refl _) (Nat.le_refl _) (fun S24 f24 g24 => ?_)
    obtain ⟨ρ24, hρ24⟩ : ∃ r, r = rtg S21 id ρ21 9 := ⟨_, rfl⟩
    rw [← hρ24] at f24 g24
    have F24 : fr S' S24 ρ ρ24 [1, 9, 81, 84] := fr_mix (fr_mix (fr_up F13 rfl) (fr_up f21 rfl)) (fr_up f24 rfl)
    have x21 := fr_A f21 x13
    have x24 := fr_A F24 x0
    have ρx21 : ρ21 x = 1 := fr_tg f21 x13.1 ρx13 (by decide)
    have ρx24 : ρ24 x = 1 := fr_tg f24 x21.1 ρx21 (by decide)
    have r24 : ∀ q, cr S24 q x = cr S q x := fun q => (fr_cr f24 x21 (by rw [ρx21]; decide)).trans ((fr_cr f21 x13 (by simp)).trans (r13 q))
    have i24 : ∀ q, ci S24 q x = ci S7 q x := fun q => (fr_ci f24 x21 (by rw [ρx21]; decide)).trans ((fr_ci f21 x13 (by simp)).trans (fr_ci f13 x7 nx7))
    obtain ⟨b24, t24⟩ := fr_ls F24 (by decide) b2' b3'
    refine ⟨x24, b, (r24 _).trans b1, b24.1, ⟨by omega, by omega⟩, q_clearG b24 t24 (fun S26 f26 l26 t26 => ?_)⟩
    obtain ⟨ρ26, hρ26⟩ : ∃ r, r = rtg S24 id ρ24 7 := ⟨_, rfl⟩
    rw [← hρ26] at f26 t26
    have gs24 := gSegs_fr (fr_fk f24 (by decide)) (by decide) gs21
    have gs26 := gSegs_fr (fr_fk f26 (by decide)) (by decide) gs24
    have gA26 := gs26 made (Nat.lt_succ_self made)
    rw [upR_s, upR_s, upR_s] at gA26
    have nx24 : ρ24 x ∉ [7] := by rw [ρx24]; decide
    have idsE : ids.take ids.length ++ made :: ids.drop ids.length = ids ++ [made] := by rw [List.take_length, List.drop_length]
    rw [idsE] at g24
    have hid2 : ∀ n, n ∈ ids ++ [made] → n < made + 1 := fun n hn => by
      rcases List.mem_append.mp hn with e | e
      · exact hid1 n e
      · rw [List.mem_singleton.mp e]; exact Nat.lt_succ_self made
    refine ⟨gA26.1.1, ⟨by omega, by omega⟩, ?_⟩
    rw [gA26.1.2.1]
    have i26 : ∀ q, ci S26 q x = ci S7 q x := fun q => (fr_ci f26 x24 nx24).trans (i24 q)
    refine h1 S26 ρ26 A bs (fun k hk => wk k hk) (fr_mix (fr_up f0 rfl) (fr_mix (fr_up F24 rfl) (fr_up f26 rfl))) gs26 (gVw_fr f26 (by decide) (by decide) gs26 hid2 g24) ⟨b, [], bm, (fr_cr f26 x24 nx24).trans ((r24 _).trans b1), l26, t26, b4, rfl, by decide, fun i D d hi => absurd (get_lt hi) (Nat.not_lt_zero i)⟩ ((i26 _).trans c366) ((i26 _).trans ((ci7 _ (by decide)).trans w368)) ((i26 _).trans ((ci7 _ (by decide)).trans w369)) (fun q hq => ?_) (fun q => (fr_cr f26 x24 nx24).trans (r24 q)) (fr_tg f26 x24.1 ρx24 (by decide))
    have q1 : q ≠ 366 := fun e => hq (by rw [e]; decide)
    have q2 : q ∉ [368, 369] := fun e => hq (List.mem_cons_of_mem _ e)
    exact (i26 q).trans ((ci7 q q1).trans (wi q q2))
  refine g_rts sN l0 l1 t0 t1 b5 d7 hok (by omega) dp_O (m2 := 300 * B.length + 2) (s2 := 3480 * B.length + 40) (Nat.le_refl _) (Nat.le_refl _) (Nat.le_refl _) (Nat.le_refl _) (by omega) (by omega) (fun S13 ρ13 f13 gS13 => key S13 ρ13 f13 gS13)
end FL
