/-! the reference: WILD, groups -/
section WJ
variable {v v' : Nat → Int32} {f f' : Nat → Nat → Int32} {g g' : Nat → Nat → Int64} {l : LGt} {n m : Nat} {P : Nat → Nat} {nd : Nat → Nd}
theorem pfN_lt {x : Nat} : pfN x < 39 := by
  unfold pfN
  split
  · decide
  · split
    · decide
    · have := figN_lt x
      omega
theorem p_wild {Q : QI} {x : Int32} (hp : mPow g) (hn : n ≤ 40) (hv : v 2 = nI n) (hP : ∀ j, j < n → f 2 j = nI (P j) ∧ P j < 65536) (hr : rPr v f g m nd) (hm : (lfI nd m).length < 24 → m ≤ 47) (hpn : (qsS nd m).1 < 2 ^ 30) (hln : (lfI nd m).length < 2 ^ 30)
    (hF : (∀ k, k < 2 → x ≠ nI k) → Q (nI 0) (upd v 99 (nI 1)) f g)
    (hS : ∀ fl, fl < 2 → x = nI fl → (¬ (1 ≤ n ∧ n ≤ 12) ∨ allB (fun k => decide (0 < pfN (P k))) n = false ∨ 8 ≤ (qsS nd m).1 ∨ 24 ≤ (lfI nd m).length) → Q (nI 0) (upd v 99 (nI 2)) f g)
    (h : ∀ fl, fl < 2 → x = nI fl → (1 ≤ n ∧ n ≤ 12) → allB (fun k => decide (0 < pfN (P k))) n = true → (qsS nd m).1 < 8 → (lfI nd m).length < 24 → ∀ v' f' g', rF [99, 4, 71, 72, 2] [47, 40, 41, 42, 43, 44, 46, 48] [3, 45] v f g v' f' g' → v' 99 = nI 0 → v' 2 = nI 0 → lfF f f' g g' → rPr v' f' g' (m + 1) (upR nd m ((4, fl, 0, 0), false, [], (List.range n).map (fun k => pfN (P k)), 0)) → Q (nI ((qsS nd m).1 + 1)) v' f' g') : r_wild Q x v f g := by
  have c40 : (nI 40).toNatClampNeg = 40 := nI_clamp (by decide)
  have fin : ∀ b1 t : Bool, (b1 = false → ∀ k, k < 2 → x ≠ nI k) → (b1 = true → ∃ k, k < 2 ∧ x = nI k) → (t = true → (1 ≤ n ∧ n ≤ 12) ∧ allB (fun k => decide (0 < pfN (P k))) n = true ∧ (qsS nd m).1 < 8 ∧ (lfI nd m).length < 24) → (t = false → (¬ (1 ≤ n ∧ n ≤ 12) ∨ allB (fun k => decide (0 < pfN (P k))) n = false ∨ 8 ≤ (qsS nd m).1 ∨ 24 ≤ (lfI nd m).length)) → r_wild_93 Q x (bI t) (bI b1) v f g := by
    intro b1 t q1 q2 q3 q4
    unfold r_wild_93 r_draftAt
    refine p_goes (b1 := b1) (b2 := t) (b3 := true) ?_
    cases b1 with
    | false => exact ⟨fun c => absurd rfl c, fun _ => hF (q1 rfl)⟩
    | true =>
      obtain ⟨fl, hfl, hx⟩ := q2 rfl
      cases t with
      | false => exact ⟨fun c => absurd rfl c, fun _ => hS fl hfl hx (q4 rfl)⟩
      | true =>
        obtain ⟨t1, t2, t8, t24⟩ := q3 rfl
        have hm47 := hm t24
        refine ⟨fun _ => ⟨pk_in 40 41 (by decide), ?_⟩, fun c => absurd c (by decide)⟩
        rw [c40, hr.1, nI_add]
        have e2 : (upd v 99 (goX true true true)) 2 = nI n := (upd_n (by decide)).trans hv
        rw [e2]
        rintro _ rfl _ rfl
        rw [hx]
        unfold r_wild_123L
        refine lfp_cnt n (fun k y => ∃ f', (∀ r, r ≠ 47 → f' r = f r) ∧ (∀ c, c < 12 * (1920 + m) → f' 47 c = f 47 c) ∧ (∀ j, j < k → f' 47 (12 * (1920 + m) + j) = nI (pfN (P j))) ∧ y = (nI fl, nI (1920 + m), nI n, nI k, upd v 99 (nI 0), f', g)) ?_ ⟨f, fun _ _ => rfl, fun _ _ => rfl, fun j hj => absurd hj (Nat.not_lt_zero j), rfl⟩
        rintro P1 k _ hk ⟨f', a1, a2, a3, rfl⟩ ih
        show r_wild_123 Q _ (nI fl) (nI (1920 + m)) (nI n) (nI k) (upd v 99 (nI 0)) f' g
        unfold r_wild_123
        refine pk_le n k (fun z => ?_) (fun z => ?_)
        · obtain rfl : k = n := by omega
          have hP' : ∀ j, j < k → f' 2 j = nI (P j) ∧ P j < 65536 := fun j hj => by rw [a1 2 (by decide)]; exact hP j hj
          refine p_reads (v := upd v 99 (nI 0)) hp hn ((upd_n (by decide)).trans hv) hP' (fun r hr' => ?_)
          have F1 : rF [99, 4] [47] [3] v f g (upd (upd v 99 (nI 0)) 4 (nI (wdC P k))) f' (sR g 3 r) := ⟨fun i hi => (upd_n (fun e => hi (by rw [e]; decide))).trans (upd_n (fun e => hi (by rw [e]; decide))), fun q hq => a1 q (fun e => hq (by rw [e]; decide)), fun q hq => sR_n (fun e => hq (by rw [e]; decide))⟩
          have lo47 : ∀ c, c < 12 * (1920 + m) → f' 47 c = f 47 c := a2
          have hr1 : rPr (upd (upd v 99 (nI 0)) 4 (nI (wdC P k))) f' (sR g 3 r) m nd := by
            obtain ⟨b1, b2, b3, b4⟩ := hr
            refine ⟨by rw [a1 48 (by decide)]; exact b1, (F1.1 71 (by decide)).trans b2, (F1.1 72 (by decide)).trans b3, fun i hi => rNd_cp (b4 i hi) ?_ ?_ ?_ ?_ ?_ (fun j _ => ?_) (fun j _ => ?_) (fun j hj => a2 _ (by omega))⟩
            · rw [a1 40 (by decide)]
            · rw [a1 41 (by decide)]
            · rw [a1 42 (by decide)]
            · rw [a1 43 (by decide)]
            · rw [a1 44 (by decide)]
            · rw [F1.2.2 45 (by decide)]
            · rw [a1 46 (by decide)]
          refine p_leaf (kd := 4) (fl := fl) (a := k) (b := false) (d := ((4, fl, 0, 0), false, [], (List.range k).map (fun k => pfN (P k)), 0)) (T := []) hr1 hm47 rfl (by decide) rfl ?_ rfl (Nat.zero_le _) (fun q => absurd q (by decide)) (fun q => absurd q (by decide)) (fun _ => rfl) (fun q => absurd q (by decide)) ⟨?_, fun _ i y hy => ?_⟩ hpn hln (fun v2 f2 g2 hF2 w2 z43 s48 o48 lo lo6 hPr => ?_)
          · show (List.map (fun k => pfN (P k)) (List.range k)).length = k
            rw [List.length_map, List.length_range]
          · show (List.map (fun k => pfN (P k)) (List.range k)).length ≤ 12
            rw [List.length_map, List.length_range]; exact t1.2
          · have hy' : (List.map (fun k => pfN (P k)) (List.range k))[i]? = some y := hy
            have il := get_lt hy'
            rw [List.length_map, List.length_range] at il
            rw [List.getElem?_map, List.getElem?_range il] at hy'
            rw [a3 i il, ← Option.some.inj hy']
          · have e1 : ∀ r, r ∈ [40, 41, 42, 43, 44, 46, 48] → f' r = f r := fun r hr' => a1 r (fun e => by rw [e] at hr'; revert hr'; decide)
            have e45 : sR g 3 r 45 = g 45 := sR_n (by decide)
            refine h fl hfl hx t1 t2 t8 t24 v2 f2 g2 (rF_tr (rF_wk F1 (by decide) (by decide) (by decide)) (rF_wk hF2 (by decide) (by decide) (by decide))) ((hF2.1 99 (by decide)).trans ((upd_n (by decide)).trans upd_at)) w2 ⟨?_, fun i hi => ?_, fun c hc => ?_, fun c hc => ?_, fun c hc => ?_⟩ hPr
            · exact zK_tr (zK_eq (e1 43 (by decide))) z43
            · rw [o48 i hi, e1 48 (by decide)]
            · have := lo c (by omega)
              rw [e1 40 (by decide), e1 41 (by decide), e1 42 (by decide), e1 43 (by decide), e1 44 (by decide)] at this
              exact this
            · have := lo6 c (by omega)
              rw [e1 46 (by decide), e45] at this
              exact this
            · rw [hF2.2.1 47 (by decide)]
              exact a2 c (by omega)
        · have put : ∀ t : Nat, t = pfN (P k) → r_wild_185 Q (fun b0 b1 b2 b3 v f g => P1 (b0, b1, b2, b3, v, f, g)) (nI fl) (nI (1920 + m)) (nI n) (nI k) (nI t) (nI (12 * (1920 + m) + k)) (upd v 99 (nI 0)) f' g := by
            intro t ht
            unfold r_wild_185
            refine ⟨pk_in (12 * (1920 + m) + k) 23616 (by omega), fun f10 e10 => ?_⟩
            rw [nI_clamp (show 12 * (1920 + m) + k < 2 ^ 31 by omega)] at e10
            rintro _ rfl
            rw [nI_add]
            have r47 : f10 47 = fun c => if c = 12 * (1920 + m) + k then nI t else f' 47 c := by rw [e10, mU_s]
            refine ih _ z ⟨f10, fun r hr' => by rw [e10, mU_n hr']; exact a1 r hr', fun c hc => ?_, fun j hj => ?_, rfl⟩
            · rw [r47]; exact (if_neg (show ¬ c = 12 * (1920 + m) + k by omega)).trans (a2 c hc)
            · rw [r47]
              show (if 12 * (1920 + m) + j = 12 * (1920 + m) + k then nI t else f' 47 (12 * (1920 + m) + j)) = _
              by_cases c : j = k
              · subst c; rw [if_pos rfl, ht]
              · rw [if_neg (by omega)]; exact a3 j (by omega)
          obtain ⟨p1, p2⟩ := hP k z
          have kin : vp_in (nI k) 40 := pk_in k 40 (by omega)
          rw [nI_clamp (show k < 2 ^ 31 by omega), a1 2 (by decide), p1, pk_mul, nI_add]
          refine ⟨kin, w_ne (P k) 63 (fun c1 => ⟨kin, w_ne (P k) 42 (fun c2 => ⟨kin, ?_⟩) (fun c2 => put 38 ?_)⟩) (fun c1 => put 37 ?_)⟩
          · refine p_figure p2 (put _ ?_)
            unfold pfN
            rw [if_neg c1, if_neg c2]
          · unfold pfN
            rw [if_neg c1, if_pos c2]
          · unfold pfN
            rw [if_pos c1]
  unfold r_wild
  rw [hv]
  refine p_inN (by omega) (by decide) (by decide) ?_
  unfold r_wild_13L
  refine lfp_cnt n (fun k y => y = (x, bI (inN n 1 12 && allB (fun k => decide (0 < pfN (P k))) k), nI k, v, f, g)) ?_ (by
    show _ = (x, bI (inN n 1 12 && true), nI 0, v, f, g)
    rw [Bool.and_true])
  rintro P1 k _ hk rfl ih
  show r_wild_13 Q _ x (bI (inN n 1 12 && allB (fun k => decide (0 < pfN (P k))) k)) (nI k) v f g
  unfold r_wild_13
  rw [hv]
  refine pk_le n k (fun z => ?_) (fun z => ?_)
  · obtain rfl : k = n := by omega
    have rest : ∀ b1 : Bool, (b1 = false → ∀ k, k < 2 → x ≠ nI k) → (b1 = true → ∃ k, k < 2 ∧ x = nI k) → (bI (inN k 1 12 && allB (fun k => decide (0 < pfN (P k))) k) = 0 → r_wild_92 Q x (bI b1) v f g) ∧ (¬ bI (inN k 1 12 && allB (fun k => decide (0 < pfN (P k))) k) = 0 → r_hasRoom (fun r_12 v_12 f_12 g_12 => (r_12 = 0 → r_wild_92 Q x (bI b1) v_12 f_12 g_12) ∧ (¬ r_12 = 0 → r_wild_93 Q x (nI 1) (bI b1) v_12 f_12 g_12)) v f g) := by
      intro b1 q1 q2
      unfold r_wild_92
      refine w_B0 (fun e => fin b1 false q1 q2 (fun c => absurd c (by decide)) (fun _ => ?_)) (fun e => ?_)
      · rw [Bool.and_eq_false_iff] at e
        rcases e with e | e
        · exact Or.inl (fun q => by simp [inN] at e; omega)
        · exact Or.inr (Or.inl e)
      · rw [Bool.and_eq_true] at e
        have e1 : 1 ≤ k ∧ k ≤ 12 := by have := e.1; simp [inN] at this; omega
        exact p_hasRoom hr (by omega) (by omega) (fun q => ⟨fun _ => fin b1 false q1 q2 (fun c => absurd c (by decide)) (fun _ => Or.inr (Or.inr q)), fun c => absurd rfl c⟩) (fun p8 p24 => ⟨fun c => absurd c (by decide), fun _ => fin b1 true q1 q2 (fun _ => ⟨e1, e.2, p8, p24⟩) (fun c => absurd c (by decide))⟩)
    exact p_isField (fun q => rest false (fun _ => q) (fun c => absurd c (by decide))) (fun i hi hx => rest true (fun c => absurd c (by decide)) (fun _ => ⟨i, hi, hx⟩))
  · have step := allB_s (fun k => decide (0 < pfN (P k))) k
    have go : ∀ t : Bool, t = (inN n 1 12 && allB (fun k => decide (0 < pfN (P k))) (k + 1)) → r_wild_64 Q (fun b0 b1 b2 v f g => P1 (b0, b1, b2, v, f, g)) x (nI k) (bI t) v f g := by
      intro t ht
      unfold r_wild_64
      rintro _ rfl
      rw [nI_add, ht]
      exact ih _ z rfl
    have kin : vp_in (nI k) 40 := pk_in k 40 (by omega)
    obtain ⟨p1, p2⟩ := hP k z
    have f36 := figN_lt (P k)
    unfold r_wild_63
    refine w_B0 (fun e => go false (by rw [step, ← Bool.and_assoc, e]; rfl)) (fun e => ⟨kin, ?_⟩)
    have yes : 0 < pfN (P k) → r_wild_64 Q (fun b0 b1 b2 v f g => P1 (b0, b1, b2, v, f, g)) x (nI k) (nI 1) v f g := fun q => go true (by rw [step, ← Bool.and_assoc, e, decide_eq_true q]; rfl)
    rw [nI_clamp (show k < 2 ^ 31 by omega), p1]
    refine p_figure p2 (pk_lt 0 (figN (P k)) (fun c => yes ?_) (fun c => ⟨kin, ?_⟩))
    · unfold pfN
      split
      · decide
      · split
        · decide
        · exact c
    rw [p1]
    refine pk_eq (P k) 63 (fun c1 => yes (by unfold pfN; rw [if_pos c1]; decide)) (fun c1 => ⟨kin, w_ne (P k) 42 (fun c2 => go false ?_) (fun c2 => yes (by unfold pfN; rw [if_neg c1, if_pos c2]; decide))⟩)
    rw [step, ← Bool.and_assoc, e, decide_eq_false (by unfold pfN; rw [if_neg c1, if_neg c2]; omega)]; rfl
/-- a group is put -/
theorem p_joins {Q : QI} {kd k a : Nat} {d : Nd} (hr : rPr v f g m nd) (hm : m ≤ 47) (hk : nK d = kd) (hkd : kd = 6 ∨ kd = 7) (hP : nP d = k) (ha : amN d = a) (hT : nT d = [] ∧ nQ d = []) (hk1 : 1 ≤ k) (hkp : k ≤ (qsS nd m).1) (hpn : (qsS nd m).1 < 2 ^ 30) (h : ∀ v' f', rF [72] [40, 42, 44, 48] [] v f g v' f' g → lfF f f' g g → rPr v' f' g (m + 1) (upR nd m d) → Q (nI ((qsS nd m).1 - (k - 1))) v' f' g) : r_joins Q (nI kd) (nI k) (nI a) v f g := by
  obtain ⟨p1, p2, p3, p4⟩ := id hr
  have c40 : (nI 40).toNatClampNeg = 40 := nI_clamp (by decide)
  unfold r_joins r_draftAt
  dsimp only
  rw [c40, p1, nI_add, p3]
  refine ⟨pk_in 40 41 (by decide), ?_⟩
  rintro _ rfl
  have inc : vp_in (nI (1920 + m)) 1968 := pk_in (1920 + m) 1968 (by omega)
  have cl : (nI (1920 + m)).toNatClampNeg = 1920 + m := nI_clamp (by omega)
  rw [cl]
  refine ⟨inc, fun f3 e3 => ⟨inc, fun f4 e4 => ⟨inc, fun f5 e5 => ⟨pk_in 40 41 (by decide), pk_in 40 41 (by decide), fun f6 e6 v7 e7 => ?_⟩⟩⟩⟩
  have s48 : f5 48 = f 48 := by rw [e5, mU_n (by decide), e4, mU_n (by decide), e3, mU_n (by decide)]
  rw [s48, p1, nI_add] at e6
  rw [pk_sub (by omega), pk_sub (by omega)] at e7
  have w72 : v7 72 = nI ((qsS nd m).1 - (k - 1)) := by rw [e7]; exact upd_at
  have q40 : f6 40 = fun c => if c = 1920 + m then nI kd else f 40 c := by rw [e6, mU_n (by decide), e5, mU_n (by decide), e4, mU_n (by decide), e3, mU_s]
  have q44 : f6 44 = fun c => if c = 1920 + m then nI k else f 44 c := by rw [e6, mU_n (by decide), e5, mU_n (by decide), e4, mU_s, e3, mU_n (by decide)]
  have q42 : f6 42 = fun c => if c = 1920 + m then nI a else f 42 c := by rw [e6, mU_n (by decide), e5, mU_s, e4, mU_n (by decide), e3, mU_n (by decide)]
  have q48 : f6 48 = fun c => if c = 40 then nI (m + 1) else f 48 c := by rw [e6, mU_s, s48]
  have o : ∀ r, r ≠ 40 → r ≠ 42 → r ≠ 44 → r ≠ 48 → f6 r = f r := fun r h0 h1 h2 h3 => by rw [e6, mU_n h3, e5, mU_n h1, e4, mU_n h2, e3, mU_n h0]
  have nl : nLf d = false := by unfold nLf; rw [hk]; exact decide_eq_false (by omega)
  have um : upR nd m d m = d := upR_s
  have ul : ∀ k, k < m → upR nd m d k = nd k := fun k hk' => upR_n (by omega)
  have qe : qsS (upR nd m d) m = qsS nd m := qsS_ext ul
  have le : lfI (upR nd m d) m = lfI nd m := lfI_ext ul
  rw [w72]
  refine h v7 f6 ⟨fun i hi => by rw [e7]; exact upd_n (fun e => hi (by rw [e]; decide)), fun r hr' => o r (fun e => hr' (by rw [e]; decide)) (fun e => hr' (by rw [e]; decide)) (fun e => hr' (by rw [e]; decide)) (fun e => hr' (by rw [e]; decide)), fun _ _ => rfl⟩ ⟨zK_eq (o 43 (by decide) (by decide) (by decide) (by decide)), fun i hi => by rw [q48]; exact if_neg hi, fun c hc => ?_, fun c hc => ⟨by rw [o 46 (by decide) (by decide) (by decide) (by decide)], rfl⟩, fun c hc => by rw [o 47 (by decide) (by decide) (by decide) (by decide)]⟩ ⟨by rw [q48]; exact if_pos rfl, ?_, ?_, fun i hi => ?_⟩
  · rw [q40, q42, q44, o 41 (by decide) (by decide) (by decide) (by decide), o 43 (by decide) (by decide) (by decide) (by decide)]
    exact ⟨if_neg (by omega), rfl, if_neg (by omega), rfl, if_neg (by omega)⟩
  · rw [lfI_n (by rw [um]; exact nl), le, e7, upd_n (by decide)]; exact p2
  · rw [w72, qs_n (by rw [um]; exact nl), qe, um, hP]
  · by_cases c : i = m
    · subst c
      rw [um]
      refine ⟨⟨?_, by omega⟩, fun q => by omega, ?_, fun q => by omega, ?_, ⟨by rw [hT.1]; exact Nat.zero_le _, by rw [hT.2]; exact Nat.zero_le _⟩, fun q => by omega, fun q => by omega, fun q => by omega⟩
      · rw [q40, hk]; exact if_pos rfl
      · rw [q42, ha]; exact if_pos rfl
      · rw [q44]
        unfold mnN
        rw [if_neg (by omega), if_neg (by omega), hP]; exact if_pos rfl
    · rw [ul i (by omega)]
      refine rNd_cp (p4 i (by omega)) ?_ ?_ ?_ ?_ ?_ (fun _ _ => rfl) (fun j _ => ?_) (fun j _ => ?_)
      · rw [q40]; exact if_neg (by omega)
      · rw [o 41 (by decide) (by decide) (by decide) (by decide)]
      · rw [q42]; exact if_neg (by omega)
      · rw [o 43 (by decide) (by decide) (by decide) (by decide)]
      · rw [q44]; exact if_neg (by omega)
      · rw [o 46 (by decide) (by decide) (by decide) (by decide)]
      · rw [o 47 (by decide) (by decide) (by decide) (by decide)]
theorem rPr_99 {t : Int32} (h : rPr v f g m nd) : rPr (upd v 99 t) f g m nd := ⟨h.1, (upd_n (by decide)).trans h.2.1, (upd_n (by decide)).trans h.2.2.1, h.2.2.2⟩
theorem p_least {Q : QI} {x y : Int32} (hr : rPr v f g m nd) (hm : 2 ≤ (qsS nd m).1 → m ≤ 47) (hpn : (qsS nd m).1 < 2 ^ 30)
    (hA : (¬ ∃ k a, 2 ≤ k ∧ k ≤ 8 ∧ 1 ≤ a ∧ a ≤ k ∧ x = nI k ∧ y = nI a) → Q (nI 0) (upd v 99 (nI 1)) f g)
    (hS : ∀ k a, 2 ≤ k → k ≤ 8 → 1 ≤ a → a ≤ k → x = nI k → y = nI a → (qsS nd m).1 < k → Q (nI 0) (upd v 99 (nI 2)) f g)
    (h : ∀ k a, 2 ≤ k → k ≤ 8 → 1 ≤ a → a ≤ k → x = nI k → y = nI a → k ≤ (qsS nd m).1 → ∀ v' f', rF [99, 72] [40, 42, 44, 48] [] v f g v' f' g → v' 99 = nI 0 → lfF f f' g g → rPr v' f' g (m + 1) (upR nd m ((6, 0, a, k), false, [], [], 0)) → Q (nI ((qsS nd m).1 - (k - 1))) v' f' g) : r_least Q x y v f g := by
  have bad : (¬ ∃ k a, 2 ≤ k ∧ k ≤ 8 ∧ 1 ≤ a ∧ a ≤ k ∧ x = nI k ∧ y = nI a) → r_least_24 Q x y v f g := by
    intro q
    have : ∀ t : Bool, r_least_38 Q x y (bI t) (nI 0) v f g := fun t => by
      unfold r_least_38
      refine p_goes (b1 := false) (b2 := t) (b3 := true) ⟨fun _ => hA q, fun c => absurd rfl c⟩
    unfold r_least_24 r_least_25
    exact ⟨fun _ => this false, fun _ => this true⟩
  unfold r_least
  refine p_in2 (lo := 2) (hi := 8) (by decide) (by decide) (fun q => ⟨fun _ => bad (fun ⟨k, a, h1, h2, h3, h4, h5, h6⟩ => q k h1 h2 h5), fun c => absurd rfl c⟩) (fun k hk1 hk2 hx => ⟨fun c => absurd c (by decide), fun _ => ?_⟩)
  rw [hx]
  refine p_in2 (lo := 1) (hi := k) (by decide) (by omega) (fun q => ⟨fun _ => ?_, fun c => absurd rfl c⟩) (fun a ha1 ha2 hy => ⟨fun c => absurd c (by decide), fun _ => ?_⟩)
  · rw [← hx]
    refine bad (fun ⟨k', a, h1, h2, h3, h4, h5, h6⟩ => ?_)
    rw [hx] at h5
    have := (nI_eq (by omega) (by omega)).mp h5
    exact q a h3 (by omega) h6
  · rw [hy]
    unfold r_least_25 r_least_38
    rw [hr.2.2.1]
    refine pk_lt (qsS nd m).1 k (fun z => p_goes (b1 := true) (b2 := false) (b3 := true) ⟨fun _ => hS k a hk1 hk2 ha1 ha2 hx hy z, fun c => absurd rfl c⟩) (fun z => p_goes (b1 := true) (b2 := true) (b3 := true) ⟨fun c => absurd c (by decide), fun _ => ?_⟩)
    refine p_joins (v := upd v 99 (nI 0)) (kd := 6) (k := k) (a := a) (d := ((6, 0, a, k), false, [], [], 0)) (rPr_99 hr) (hm (by omega)) rfl (Or.inl rfl) rfl rfl ⟨rfl, rfl⟩ (by omega) z hpn (fun v' f' hF hL hPr => ?_)
    exact h k a hk1 hk2 ha1 ha2 hx hy z v' f' (rF_99 hF) ((hF.1 99 (by decide)).trans upd_at) hL hPr
theorem p_but {Q : QI} (hr : rPr v f g m nd) (hm : 2 ≤ (qsS nd m).1 → m ≤ 47) (hpn : (qsS nd m).1 < 2 ^ 30) (hX : (qsS nd m).1 < 2 → Q (nI 0) (upd v 99 (nI 1)) f g) (h : 2 ≤ (qsS nd m).1 → ∀ v' f', rF [99, 72] [40, 42, 44, 48] [] v f g v' f' g → v' 99 = nI 0 → lfF f f' g g → rPr v' f' g (m + 1) (upR nd m ((7, 0, 1, 2), false, [], [], 0)) → Q (nI ((qsS nd m).1 - 1)) v' f' g) : r_but Q v f g := by
  unfold r_but r_but_14
  rw [hr.2.2.1]
  refine pk_lt (qsS nd m).1 2 (fun z => goF (b1 := false) ⟨fun _ => hX z, fun c => absurd rfl c⟩) (fun z => goF (b1 := true) ⟨fun c => absurd c (by decide), fun _ => ?_⟩)
  refine p_joins (v := upd v 99 (nI 0)) (kd := 7) (k := 2) (a := 0) (d := ((7, 0, 1, 2), false, [], [], 0)) (rPr_99 hr) (hm z) rfl (Or.inr rfl) rfl rfl ⟨rfl, rfl⟩ (by decide) z hpn (fun v' f' hF hL hPr => ?_)
  exact h z v' f' (rF_99 hF) ((hF.1 99 (by decide)).trans upd_at) hL hPr
theorem p_scraps {Q : QV} (hr : rPr v f g m nd) (h : ∀ v' f', rF [71, 72] [48] [] v f g v' f' g → (∀ i, i ≠ 40 → f' 48 i = f 48 i) → (∀ nd' : Nat → Nd, rPr v' f' g 0 nd') → Q v' f' g) : r_scraps Q v f g := by
  have c40 : (nI 40).toNatClampNeg = 40 := nI_clamp (by decide)
  unfold r_scraps
  rw [c40]
  refine ⟨pk_in 40 41 (by decide), fun f1 e1 v2 e2 v3 e3 => ?_⟩
  have s48 : f1 48 = fun c => if c = 40 then nI 0 else f 48 c := by rw [e1, mU_s]
  refine h v3 f1 ⟨fun i hi => by rw [e3, upd_n (fun e => hi (by rw [e]; decide)), e2, upd_n (fun e => hi (by rw [e]; decide))], fun r hr' => by rw [e1, mU_n (fun e => hr' (by rw [e]; decide))], fun _ _ => rfl⟩ (fun i hi => by rw [s48]; exact if_neg hi) (fun nd' => ⟨by rw [s48]; exact if_pos rfl, ?_, by rw [e3]; exact upd_at, fun k hk => absurd hk (Nat.not_lt_zero k)⟩)
  rw [e3, upd_n (by decide), e2]; exact upd_at
theorem p_scrap {Q : QI} (hr : rPr v f g m nd) (h : ∀ v' f', rF [99, 71, 72] [48] [] v f g v' f' g → v' 99 = nI 0 → (∀ i, i ≠ 40 → f' 48 i = f 48 i) → (∀ nd' : Nat → Nd, rPr v' f' g 0 nd') → Q (nI (qsS nd m).1) v' f' g) : r_scrap Q v f g := by
  unfold r_scrap
  rintro _ rfl _ rfl
  have e72 : (upd v 99 (nI 0)) 72 = nI (qsS nd m).1 := (upd_n (by decide)).trans hr.2.2.1
  rw [e72]
  exact p_scraps (rPr_99 hr) (fun v' f' hF o48 hPr => h v' f' (rF_99 hF) ((hF.1 99 (by decide)).trans upd_at) o48 hPr)
theorem p_weigh {Q : QI} {x y : Int32} {w0 w1 : Nat} (h0 : f 49 0 = nI w0) (h1 : f 49 1 = nI w1)
    (hF : (∀ k, k < 2 → x ≠ nI k) → Q (nI 0) (upd v 99 (nI 1)) f g)
    (hA : ∀ fl, fl < 2 → x = nI fl → (∀ a, 1 ≤ a → a ≤ 9 → y ≠ nI a) → Q (nI 0) (upd v 99 (nI 2)) f g)
    (h : ∀ fl a f', fl < 2 → x = nI fl → 1 ≤ a → a ≤ 9 → y = nI a → (∀ r, r ≠ 49 → f' r = f r) → f' 49 0 = nI (if fl = 0 then a else w0) → f' 49 1 = nI (if fl = 0 then w1 else a) → Q (nI (if fl = 0 then w0 else w1)) (upd v 99 (nI 0)) f' g) : r_weigh Q x y v f g := by
  unfold r_weigh
  refine p_isField (fun q => p_in2 (lo := 1) (hi := 9) (by decide) (by decide) (fun q' => p_goes (b1 := false) (b2 := false) (b3 := true) ⟨fun c => absurd rfl c, fun _ => hF q⟩) (fun a ha1 ha2 hy => p_goes (b1 := false) (b2 := true) (b3 := true) ⟨fun c => absurd rfl c, fun _ => hF q⟩)) (fun fl hfl hx => p_in2 (lo := 1) (hi := 9) (by decide) (by decide) (fun q' => p_goes (b1 := true) (b2 := false) (b3 := true) ⟨fun c => absurd rfl c, fun _ => hA fl hfl hx q'⟩) (fun a ha1 ha2 hy => p_goes (b1 := true) (b2 := true) (b3 := true) ⟨fun _ => ?_, fun c => absurd c (by decide)⟩))
  rw [hx, nI_clamp (show fl < 2 ^ 31 by omega), hy]
  have inc : vp_in (nI fl) 2 := pk_in fl 2 hfl
  refine ⟨inc, ?_⟩
  rintro _ rfl
  refine ⟨inc, fun f5 e5 => ?_⟩
  have r49 : f5 49 = fun c => if c = fl then nI a else f 49 c := by rw [e5, mU_s]
  have fin := h fl a f5 hfl hx ha1 ha2 hy (fun r hr => by rw [e5, mU_n hr])
  rcases (show fl = 0 ∨ fl = 1 by omega) with rfl | rfl
  · have q := fin (by rw [r49]; rfl) (by rw [r49]; exact h1)
    rw [h0]
    exact q
  · have q := fin (by rw [r49]; exact h0) (by rw [r49]; rfl)
    rw [h1]
    exact q
end WJ
