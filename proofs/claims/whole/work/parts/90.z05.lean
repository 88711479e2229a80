/-! the reference: TERM, PHRASE, NEAR, PREFIX, FUZZY -/
/-- the queries' rows are as they were -/
def lfF (f f' : Nat → Nat → Int32) (g g' : Nat → Nat → Int64) : Prop := zK f f' 43 ∧ (∀ i, i ≠ 40 → f' 48 i = f 48 i) ∧ (∀ c, c < 1920 → f' 40 c = f 40 c ∧ f' 41 c = f 41 c ∧ f' 42 c = f 42 c ∧ f' 43 c = f 43 c ∧ f' 44 c = f 44 c) ∧ (∀ c, c < 11520 → f' 46 c = f 46 c ∧ g' 45 c = g 45 c) ∧ ∀ c, c < 23040 → f' 47 c = f 47 c
section TM
variable {v v' : Nat → Int32} {f f' : Nat → Nat → Int32} {g g' : Nat → Nat → Int64} {l : LGt} {n m : Nat} {P : Nat → Nat} {nd : Nat → Nd}
theorem rPr_fr (h1 : v' 71 = v 71) (h2 : v' 72 = v 72) (h3 : ∀ r, r ∈ [40, 41, 42, 43, 44, 46, 47, 48] → f' r = f r) (h4 : g' 45 = g 45) (h : rPr v f g m nd) : rPr v' f' g' m nd := by
  obtain ⟨a1, a2, a3, a4⟩ := h
  refine ⟨by rw [h3 48 (by decide)]; exact a1, h1.trans a2, h2.trans a3, fun k hk => rNd_cp (a4 k hk) ?_ ?_ ?_ ?_ ?_ (fun i _ => by rw [h4]) (fun i _ => ?_) (fun i _ => ?_)⟩
  · rw [h3 40 (by decide)]
  · rw [h3 41 (by decide)]
  · rw [h3 42 (by decide)]
  · rw [h3 43 (by decide)]
  · rw [h3 44 (by decide)]
  · rw [h3 46 (by decide)]
  · rw [h3 47 (by decide)]
theorem lfF_of (h1 : zK f f' 43) (h2 : ∀ i, i ≠ 40 → f' 48 i = f 48 i) (h3 : ∀ c, c < 1920 + m → f' 40 c = f 40 c ∧ f' 41 c = f 41 c ∧ f' 42 c = f 42 c ∧ f' 43 c = f 43 c ∧ f' 44 c = f 44 c) (h4 : ∀ c, c < 6 * (1920 + m) → f' 46 c = f 46 c ∧ g' 45 c = g 45 c) (h5 : ∀ c, c < 23040 → f' 47 c = f 47 c) : lfF f f' g g' := ⟨h1, h2, fun c hc => h3 c (by omega), fun c hc => h4 c (by omega), h5⟩
theorem lfF_tr {f'' : Nat → Nat → Int32} {g'' : Nat → Nat → Int64} (e : ∀ r, r ∈ [40, 41, 42, 43, 44, 46, 47, 48] → f' r = f r) (e2 : g' 45 = g 45) (h : lfF f' f'' g' g'') : lfF f f'' g g'' := by
  obtain ⟨h1, h2, h3, h4, h5⟩ := h
  have e40 := e 40 (by decide)
  have e41 := e 41 (by decide)
  have e42 := e 42 (by decide)
  have e43 := e 43 (by decide)
  have e44 := e 44 (by decide)
  have e46 := e 46 (by decide)
  have e47 := e 47 (by decide)
  have e48 := e 48 (by decide)
  rw [e48] at h2
  rw [e40, e41, e42, e43, e44] at h3
  rw [e46, e2] at h4
  rw [e47] at h5
  exact ⟨zK_tr (zK_eq e43) h1, h2, h3, h4, h5⟩
theorem tkP_le : (tkP l P n).length ≤ wdC P n := by
  have := tkL_len (F := l.1) (S := l.2.1) (yn := 0) (stp := l.2.2.2) (st := fun k => lN (stW (wdW P n k))) (wdC P n)
  rw [Nat.zero_add, Nat.one_mul] at this
  exact this
theorem p_in2 {Q : QI} {x : Int32} {lo hi : Nat} (hlo : lo < 2 ^ 31) (hhi : hi < 2 ^ 31) (h0 : (∀ a, lo ≤ a → a ≤ hi → x ≠ nI a) → Q (bI false) v f g) (h1 : ∀ a, lo ≤ a → a ≤ hi → x = nI a → Q (bI true) v f g) : r_in Q x (nI lo) (nI hi) v f g := by
  refine p_in ?_
  cases e : inB x (nI lo) (nI hi) with
  | false =>
    refine h0 (fun a h2 h3 hx => ?_)
    rw [hx, inB_N (by omega) hlo hhi] at e
    simp [inN] at e
    omega
  | true =>
    unfold inB at e
    rw [Bool.and_eq_true, decide_eq_true_iff, decide_eq_true_iff] at e
    have l1 := Int32.le_iff_toInt_le.mp e.1
    rw [nI_toInt hlo] at l1
    have nn : ¬ x < 0 := fun c => by
      have := Int32.lt_iff_toInt_lt.mp c
      rw [show (0 : Int32).toInt = 0 from rfl] at this
      omega
    obtain ⟨a, ha, hx⟩ := nI_of nn
    rw [hx] at e
    exact h1 a ((nI_leI hlo ha).mp e.1) ((nI_leI ha hhi).mp e.2) hx
theorem p_term {Q : QI} {x : Int32} (hp : mPow g) (hn : n ≤ 40) (hv : v 2 = nI n) (hP : ∀ j, j < n → f 2 j = nI (P j) ∧ P j < 65536) (hl : rLg v g l) (hr : rPr v f g m nd) (hm : (lfI nd m).length < 24 → m ≤ 47) (hpn : (qsS nd m).1 < 2 ^ 30) (hln : (lfI nd m).length < 2 ^ 30)
    (hF : (∀ k, k < 2 → x ≠ nI k) → ∀ v' f' g', rF [99, 4, 77] [51] [3, 50] v f g v' f' g' → v' 99 = nI 1 → Q (nI 0) v' f' g')
    (hS : ∀ fl, fl < 2 → x = nI fl → ((tkP l P n).length ≠ 1 ∨ 8 ≤ (qsS nd m).1 ∨ 24 ≤ (lfI nd m).length) → ∀ v' f' g', rF [99, 4, 77] [51] [3, 50] v f g v' f' g' → v' 99 = nI 2 → Q (nI 0) v' f' g')
    (h : ∀ fl, fl < 2 → x = nI fl → (tkP l P n).length = 1 → (qsS nd m).1 < 8 → (lfI nd m).length < 24 → ∀ v' f' g', rF [99, 4, 77, 71, 72, 2] [51, 40, 41, 42, 43, 44, 46, 48] [3, 50, 45] v f g v' f' g' → v' 99 = nI 0 → v' 2 = nI 0 → lfF f f' g g' → rPr v' f' g' (m + 1) (upR nd m ((0, fl, 0, 0), false, tkP l P n, [], 0)) → Q (nI ((qsS nd m).1 + 1)) v' f' g') : r_term Q x v f g := by
  have core : ∀ (b1 t : Bool) v1 f1 g1, rF [4, 77] [51] [3, 50] v f g v1 f1 g1 → v1 77 = nI (tkP l P n).length → (∀ i x, (tkP l P n)[i]? = some x → g1 50 i = x.1 ∧ f1 51 i = nI x.2) → (b1 = false → ∀ k, k < 2 → x ≠ nI k) → (b1 = true → ∃ k, k < 2 ∧ x = nI k) → (t = true → ((tkP l P n).length = 1) ∧ (qsS nd m).1 < 8 ∧ (lfI nd m).length < 24) → (t = false → ((tkP l P n).length ≠ 1 ∨ 8 ≤ (qsS nd m).1 ∨ 24 ≤ (lfI nd m).length)) → r_term_27 Q x (bI t) (bI b1) v1 f1 g1 := by
    intro b1 t v1 f1 g1 hF1 e77 eT q1 q2 q5 q6
    have fr : ∀ t, rF [99, 4, 77] [51] [3, 50] v f g (upd v1 99 t) f1 g1 := fun t => ⟨fun i hi => (upd_n (fun e => hi (by rw [e]; decide))).trans (hF1.1 i (fun q => hi (List.mem_cons_of_mem _ q))), hF1.2.1, hF1.2.2⟩
    unfold r_term_27
    refine p_goes (b1 := b1) (b2 := t) (b3 := true) ?_
    cases b1 with
    | false => exact ⟨fun _ => hF (q1 rfl) _ f1 g1 (fr _) upd_at, fun c => absurd rfl c⟩
    | true =>
      obtain ⟨fl, hfl, hx⟩ := q2 rfl
      cases t with
      | false => exact ⟨fun _ => hS fl hfl hx (q6 rfl) _ f1 g1 (fr _) upd_at, fun c => absurd rfl c⟩
      | true =>
        obtain ⟨tc, t8, t24⟩ := q5 rfl
        refine ⟨fun c => absurd c (by decide), fun _ => ?_⟩
        have hr1 : rPr (upd v1 99 (nI 0)) f1 g1 m nd := rPr_fr ((fr _).1 71 (by decide)) ((fr _).1 72 (by decide)) (fun r hr' => (hF1.2.1 r (fun q => by rw [List.mem_singleton.mp q] at hr'; revert hr'; decide))) (hF1.2.2 45 (by decide)) hr
        rw [hx]
        refine p_leaf (v := upd v1 99 (nI 0)) (kd := 0) (fl := fl) (a := 0) (b := false) (d := ((0, fl, 0, 0), false, tkP l P n, [], 0)) (T := (tkP l P n)) hr1 (hm t24) rfl (by decide) rfl rfl rfl (by have h1 := tkP_le (l := l) (P := P) (n := n); have h2 := wdC_le P n; omega) (fun _ => (upd_n (by decide)).trans e77) (fun _ => ⟨rfl, by omega, eT⟩) (fun q => absurd q (by decide)) (fun q => absurd q (by decide)) ⟨Nat.zero_le _, fun q => absurd q (by decide)⟩ hpn hln (fun v2 f2 g2 hF2 w2 z43 s48 o48 lo lo6 hPr => ?_)
        have F3 := rF_tr (rF_wk (fr (nI 0)) (A' := [99, 4, 77, 71, 72, 2]) (Fm' := [51, 40, 41, 42, 43, 44, 46, 48]) (Gm' := [3, 50, 45]) (by decide) (by decide) (by decide)) (rF_wk hF2 (by decide) (by decide) (by decide))
        have e1 : ∀ r, r ∈ [40, 41, 42, 43, 44, 46, 47, 48] → f1 r = f r := fun r hr' => (hF1.2.1 r (fun q => by rw [List.mem_singleton.mp q] at hr'; revert hr'; decide))
        exact h fl hfl hx tc t8 t24 v2 f2 g2 F3 ((hF2.1 99 (by decide)).trans upd_at) w2 (lfF_tr e1 (hF1.2.2 45 (by decide)) (lfF_of z43 o48 lo lo6 (fun c _ => by rw [hF2.2.1 47 (by decide)]))) hPr
  unfold r_term
  have rest : ∀ (b1 : Bool), (b1 = false → ∀ k, k < 2 → x ≠ nI k) → (b1 = true → ∃ k, k < 2 ∧ x = nI k) → r_hasTokens (fun r_2 v_2 f_2 g_2 => (r_2 = 0 → r_term_26 Q x (bI b1) v_2 f_2 g_2) ∧ (¬ r_2 = 0 → r_hasRoom (fun r_5 v_5 f_5 g_5 => (r_5 = 0 → r_term_26 Q x (bI b1) v_5 f_5 g_5) ∧ (¬ r_5 = 0 → r_term_27 Q x (nI 1) (bI b1) v_5 f_5 g_5)) v_2 f_2 g_2)) (nI 1) (nI 1) v f g := by
    intro b1 q1 q2
    unfold r_term_26
    refine p_hasTokens (by decide) (by decide) hp hn hv hP hl (fun v1 f1 g1 hF1 e77 eT => w_B0 (fun e => core b1 false _ _ _ hF1 e77 eT q1 q2 (fun c => absurd c (by decide)) (fun _ => Or.inl (by simp [inN] at e; omega))) (fun e => ?_))
    exact p_hasRoom (rPr_fr (hF1.1 71 (by decide)) (hF1.1 72 (by decide)) (fun r hr' => (hF1.2.1 r (fun q => by rw [List.mem_singleton.mp q] at hr'; revert hr'; decide))) (hF1.2.2 45 (by decide)) hr) (by omega) (by omega) (fun q => ⟨fun _ => core b1 false _ _ _ hF1 e77 eT q1 q2 (fun c => absurd c (by decide)) (fun _ => Or.inr q), fun c => absurd rfl c⟩) (fun p8 p24 => ⟨fun c => absurd c (by decide), fun _ => core b1 true _ _ _ hF1 e77 eT q1 q2 (fun _ => ⟨(show (tkP l P n).length = 1 from by simp [inN] at e; omega), p8, p24⟩) (fun c => absurd c (by decide))⟩)
  exact p_isField (fun q => rest false (fun _ => q) (fun c => absurd c (by decide))) (fun k hk hx => rest true (fun c => absurd c (by decide)) (fun _ => ⟨k, hk, hx⟩))
theorem p_phrase {Q : QI} {x y : Int32} (hp : mPow g) (hn : n ≤ 40) (hv : v 2 = nI n) (hP : ∀ j, j < n → f 2 j = nI (P j) ∧ P j < 65536) (hl : rLg v g l) (hr : rPr v f g m nd) (hm : (lfI nd m).length < 24 → m ≤ 47) (hpn : (qsS nd m).1 < 2 ^ 30) (hln : (lfI nd m).length < 2 ^ 30)
    (hF : (∀ k, k < 2 → x ≠ nI k) → ∀ v' f' g', rF [99, 4, 77] [51] [3, 50] v f g v' f' g' → v' 99 = nI 1 → Q (nI 0) v' f' g')
    (hA : ∀ fl, fl < 2 → x = nI fl → (∀ a, 0 ≤ a → a ≤ 20 → y ≠ nI a) → ∀ v' f' g', rF [99, 4, 77] [51] [3, 50] v f g v' f' g' → v' 99 = nI 2 → Q (nI 0) v' f' g')
    (hS : ∀ fl a, fl < 2 → x = nI fl → 0 ≤ a → a ≤ 20 → y = nI a → (¬ (1 ≤ (tkP l P n).length ∧ (tkP l P n).length ≤ 6) ∨ 8 ≤ (qsS nd m).1 ∨ 24 ≤ (lfI nd m).length) → ∀ v' f' g', rF [99, 4, 77] [51] [3, 50] v f g v' f' g' → v' 99 = nI 3 → Q (nI 0) v' f' g')
    (h : ∀ fl a, fl < 2 → x = nI fl → 0 ≤ a → a ≤ 20 → y = nI a → (1 ≤ (tkP l P n).length ∧ (tkP l P n).length ≤ 6) → (qsS nd m).1 < 8 → (lfI nd m).length < 24 → ∀ v' f' g', rF [99, 4, 77, 71, 72, 2] [51, 40, 41, 42, 43, 44, 46, 48] [3, 50, 45] v f g v' f' g' → v' 99 = nI 0 → v' 2 = nI 0 → lfF f f' g g' → rPr v' f' g' (m + 1) (upR nd m ((1, fl, a, 0), false, tkP l P n, [], 0)) → Q (nI ((qsS nd m).1 + 1)) v' f' g') : r_phrase Q x y v f g := by
  have core : ∀ (b1 b2 t : Bool) v1 f1 g1, rF [4, 77] [51] [3, 50] v f g v1 f1 g1 → v1 77 = nI (tkP l P n).length → (∀ i x, (tkP l P n)[i]? = some x → g1 50 i = x.1 ∧ f1 51 i = nI x.2) → (b1 = false → ∀ k, k < 2 → x ≠ nI k) → (b1 = true → ∃ k, k < 2 ∧ x = nI k) → (b2 = false → ∀ a, 0 ≤ a → a ≤ 20 → y ≠ nI a) → (b2 = true → ∃ a, 0 ≤ a ∧ a ≤ 20 ∧ y = nI a) → (t = true → ((1 ≤ (tkP l P n).length ∧ (tkP l P n).length ≤ 6)) ∧ (qsS nd m).1 < 8 ∧ (lfI nd m).length < 24) → (t = false → (¬ (1 ≤ (tkP l P n).length ∧ (tkP l P n).length ≤ 6) ∨ 8 ≤ (qsS nd m).1 ∨ 24 ≤ (lfI nd m).length)) → r_phrase_35 Q x y (bI t) (bI b2) (bI b1) v1 f1 g1 := by
    intro b1 b2 t v1 f1 g1 hF1 e77 eT q1 q2 q3 q4 q5 q6
    have fr : ∀ t, rF [99, 4, 77] [51] [3, 50] v f g (upd v1 99 t) f1 g1 := fun t => ⟨fun i hi => (upd_n (fun e => hi (by rw [e]; decide))).trans (hF1.1 i (fun q => hi (List.mem_cons_of_mem _ q))), hF1.2.1, hF1.2.2⟩
    unfold r_phrase_35
    refine p_goes (b1 := b1) (b2 := b2) (b3 := t) ?_
    cases b1 with
    | false => exact ⟨fun _ => hF (q1 rfl) _ f1 g1 (fr _) upd_at, fun c => absurd rfl c⟩
    | true =>
      obtain ⟨fl, hfl, hx⟩ := q2 rfl
      cases b2 with
      | false => exact ⟨fun _ => hA fl hfl hx (q3 rfl) _ f1 g1 (fr _) upd_at, fun c => absurd rfl c⟩
      | true =>
        obtain ⟨a, ha1, ha2, hy⟩ := q4 rfl
        cases t with
        | false => exact ⟨fun _ => hS fl a hfl hx ha1 ha2 hy (q6 rfl) _ f1 g1 (fr _) upd_at, fun c => absurd rfl c⟩
        | true =>
          obtain ⟨tc, t8, t24⟩ := q5 rfl
          refine ⟨fun c => absurd c (by decide), fun _ => ?_⟩
          have hr1 : rPr (upd v1 99 (nI 0)) f1 g1 m nd := rPr_fr ((fr _).1 71 (by decide)) ((fr _).1 72 (by decide)) (fun r hr' => (hF1.2.1 r (fun q => by rw [List.mem_singleton.mp q] at hr'; revert hr'; decide))) (hF1.2.2 45 (by decide)) hr
          rw [hx, hy]
          refine p_leaf (v := upd v1 99 (nI 0)) (kd := 1) (fl := fl) (a := a) (b := false) (d := ((1, fl, a, 0), false, tkP l P n, [], 0)) (T := (tkP l P n)) hr1 (hm t24) rfl (by decide) rfl rfl rfl (by have h1 := tkP_le (l := l) (P := P) (n := n); have h2 := wdC_le P n; omega) (fun _ => (upd_n (by decide)).trans e77) (fun _ => ⟨rfl, by exact tc.2, eT⟩) (fun q => absurd q (by decide)) (fun q => absurd q (by decide)) ⟨Nat.zero_le _, fun q => absurd q (by decide)⟩ hpn hln (fun v2 f2 g2 hF2 w2 z43 s48 o48 lo lo6 hPr => ?_)
          have F3 := rF_tr (rF_wk (fr (nI 0)) (A' := [99, 4, 77, 71, 72, 2]) (Fm' := [51, 40, 41, 42, 43, 44, 46, 48]) (Gm' := [3, 50, 45]) (by decide) (by decide) (by decide)) (rF_wk hF2 (by decide) (by decide) (by decide))
          have e1 : ∀ r, r ∈ [40, 41, 42, 43, 44, 46, 47, 48] → f1 r = f r := fun r hr' => (hF1.2.1 r (fun q => by rw [List.mem_singleton.mp q] at hr'; revert hr'; decide))
          exact h fl a hfl hx ha1 ha2 hy tc t8 t24 v2 f2 g2 F3 ((hF2.1 99 (by decide)).trans upd_at) w2 (lfF_tr e1 (hF1.2.2 45 (by decide)) (lfF_of z43 o48 lo lo6 (fun c _ => by rw [hF2.2.1 47 (by decide)]))) hPr
  unfold r_phrase
  have rest : ∀ (b1 b2 : Bool), (b1 = false → ∀ k, k < 2 → x ≠ nI k) → (b1 = true → ∃ k, k < 2 ∧ x = nI k) → (b2 = false → ∀ a, 0 ≤ a → a ≤ 20 → y ≠ nI a) → (b2 = true → ∃ a, 0 ≤ a ∧ a ≤ 20 ∧ y = nI a) → r_hasTokens (fun r_3 v_3 f_3 g_3 => (r_3 = 0 → r_phrase_34 Q x y (bI b2) (bI b1) v_3 f_3 g_3) ∧ (¬ r_3 = 0 → r_hasRoom (fun r_5 v_5 f_5 g_5 => (r_5 = 0 → r_phrase_34 Q x y (bI b2) (bI b1) v_5 f_5 g_5) ∧ (¬ r_5 = 0 → r_phrase_35 Q x y (nI 1) (bI b2) (bI b1) v_5 f_5 g_5)) v_3 f_3 g_3)) (nI 1) (nI 6) v f g := by
    intro b1 b2 q1 q2 q3 q4
    unfold r_phrase_34
    refine p_hasTokens (by decide) (by decide) hp hn hv hP hl (fun v1 f1 g1 hF1 e77 eT => w_B0 (fun e => core b1 b2 false _ _ _ hF1 e77 eT q1 q2 q3 q4 (fun c => absurd c (by decide)) (fun _ => Or.inl (by simp [inN] at e; omega))) (fun e => ?_))
    exact p_hasRoom (rPr_fr (hF1.1 71 (by decide)) (hF1.1 72 (by decide)) (fun r hr' => (hF1.2.1 r (fun q => by rw [List.mem_singleton.mp q] at hr'; revert hr'; decide))) (hF1.2.2 45 (by decide)) hr) (by omega) (by omega) (fun q => ⟨fun _ => core b1 b2 false _ _ _ hF1 e77 eT q1 q2 q3 q4 (fun c => absurd c (by decide)) (fun _ => Or.inr q), fun c => absurd rfl c⟩) (fun p8 p24 => ⟨fun c => absurd c (by decide), fun _ => core b1 b2 true _ _ _ hF1 e77 eT q1 q2 q3 q4 (fun _ => ⟨(show (1 ≤ (tkP l P n).length ∧ (tkP l P n).length ≤ 6) from by simp [inN] at e; omega), p8, p24⟩) (fun c => absurd c (by decide))⟩)
  exact p_isField (fun q => p_in2 (lo := 0) (hi := 20) (by decide) (by decide) (fun q' => rest false false (fun _ => q) (fun c => absurd c (by decide)) (fun _ => q') (fun c => absurd c (by decide))) (fun a ha1 ha2 hy => rest false true (fun _ => q) (fun c => absurd c (by decide)) (fun c => absurd c (by decide)) (fun _ => ⟨a, ha1, ha2, hy⟩))) (fun k hk hx => p_in2 (lo := 0) (hi := 20) (by decide) (by decide) (fun q' => rest true false (fun c => absurd c (by decide)) (fun _ => ⟨k, hk, hx⟩) (fun _ => q') (fun c => absurd c (by decide))) (fun a ha1 ha2 hy => rest true true (fun c => absurd c (by decide)) (fun _ => ⟨k, hk, hx⟩) (fun c => absurd c (by decide)) (fun _ => ⟨a, ha1, ha2, hy⟩)))
theorem p_near {Q : QI} {x y : Int32} {b : Bool} (hp : mPow g) (hn : n ≤ 40) (hv : v 2 = nI n) (hP : ∀ j, j < n → f 2 j = nI (P j) ∧ P j < 65536) (hl : rLg v g l) (hr : rPr v f g m nd) (hm : (lfI nd m).length < 24 → m ≤ 47) (hpn : (qsS nd m).1 < 2 ^ 30) (hln : (lfI nd m).length < 2 ^ 30)
    (hF : (∀ k, k < 2 → x ≠ nI k) → ∀ v' f' g', rF [99, 4, 77] [51] [3, 50] v f g v' f' g' → v' 99 = nI 1 → Q (nI 0) v' f' g')
    (hA : ∀ fl, fl < 2 → x = nI fl → (∀ a, 1 ≤ a → a ≤ 20 → y ≠ nI a) → ∀ v' f' g', rF [99, 4, 77] [51] [3, 50] v f g v' f' g' → v' 99 = nI 2 → Q (nI 0) v' f' g')
    (hS : ∀ fl a, fl < 2 → x = nI fl → 1 ≤ a → a ≤ 20 → y = nI a → ((tkP l P n).length ≠ 2 ∨ 8 ≤ (qsS nd m).1 ∨ 24 ≤ (lfI nd m).length) → ∀ v' f' g', rF [99, 4, 77] [51] [3, 50] v f g v' f' g' → v' 99 = nI 3 → Q (nI 0) v' f' g')
    (h : ∀ fl a, fl < 2 → x = nI fl → 1 ≤ a → a ≤ 20 → y = nI a → (tkP l P n).length = 2 → (qsS nd m).1 < 8 → (lfI nd m).length < 24 → ∀ v' f' g', rF [99, 4, 77, 71, 72, 2] [51, 40, 41, 42, 43, 44, 46, 48] [3, 50, 45] v f g v' f' g' → v' 99 = nI 0 → v' 2 = nI 0 → lfF f f' g g' → rPr v' f' g' (m + 1) (upR nd m ((2, fl, a, 0), b, tkP l P n, [], 0)) → Q (nI ((qsS nd m).1 + 1)) v' f' g') : r_near Q x y (bI b) v f g := by
  have core : ∀ (b1 b2 t : Bool) v1 f1 g1, rF [4, 77] [51] [3, 50] v f g v1 f1 g1 → v1 77 = nI (tkP l P n).length → (∀ i x, (tkP l P n)[i]? = some x → g1 50 i = x.1 ∧ f1 51 i = nI x.2) → (b1 = false → ∀ k, k < 2 → x ≠ nI k) → (b1 = true → ∃ k, k < 2 ∧ x = nI k) → (b2 = false → ∀ a, 1 ≤ a → a ≤ 20 → y ≠ nI a) → (b2 = true → ∃ a, 1 ≤ a ∧ a ≤ 20 ∧ y = nI a) → (t = true → ((tkP l P n).length = 2) ∧ (qsS nd m).1 < 8 ∧ (lfI nd m).length < 24) → (t = false → ((tkP l P n).length ≠ 2 ∨ 8 ≤ (qsS nd m).1 ∨ 24 ≤ (lfI nd m).length)) → r_near_34 Q x y (bI b) (bI t) (bI b2) (bI b1) v1 f1 g1 := by
    intro b1 b2 t v1 f1 g1 hF1 e77 eT q1 q2 q3 q4 q5 q6
    have fr : ∀ t, rF [99, 4, 77] [51] [3, 50] v f g (upd v1 99 t) f1 g1 := fun t => ⟨fun i hi => (upd_n (fun e => hi (by rw [e]; decide))).trans (hF1.1 i (fun q => hi (List.mem_cons_of_mem _ q))), hF1.2.1, hF1.2.2⟩
    unfold r_near_34
    refine p_goes (b1 := b1) (b2 := b2) (b3 := t) ?_
    cases b1 with
    | false => exact ⟨fun _ => hF (q1 rfl) _ f1 g1 (fr _) upd_at, fun c => absurd rfl c⟩
    | true =>
      obtain ⟨fl, hfl, hx⟩ := q2 rfl
      cases b2 with
      | false => exact ⟨fun _ => hA fl hfl hx (q3 rfl) _ f1 g1 (fr _) upd_at, fun c => absurd rfl c⟩
      | true =>
        obtain ⟨a, ha1, ha2, hy⟩ := q4 rfl
        cases t with
        | false => exact ⟨fun _ => hS fl a hfl hx ha1 ha2 hy (q6 rfl) _ f1 g1 (fr _) upd_at, fun c => absurd rfl c⟩
        | true =>
          obtain ⟨tc, t8, t24⟩ := q5 rfl
          refine ⟨fun c => absurd c (by decide), fun _ => ?_⟩
          have hr1 : rPr (upd v1 99 (nI 0)) f1 g1 m nd := rPr_fr ((fr _).1 71 (by decide)) ((fr _).1 72 (by decide)) (fun r hr' => (hF1.2.1 r (fun q => by rw [List.mem_singleton.mp q] at hr'; revert hr'; decide))) (hF1.2.2 45 (by decide)) hr
          rw [hx, hy]
          refine p_leaf (v := upd v1 99 (nI 0)) (kd := 2) (fl := fl) (a := a) (b := b) (d := ((2, fl, a, 0), b, tkP l P n, [], 0)) (T := (tkP l P n)) hr1 (hm t24) rfl (by decide) rfl rfl rfl (by have h1 := tkP_le (l := l) (P := P) (n := n); have h2 := wdC_le P n; omega) (fun _ => (upd_n (by decide)).trans e77) (fun _ => ⟨rfl, by omega, eT⟩) (fun q => absurd q (by decide)) (fun q => absurd q (by decide)) ⟨Nat.zero_le _, fun q => absurd q (by decide)⟩ hpn hln (fun v2 f2 g2 hF2 w2 z43 s48 o48 lo lo6 hPr => ?_)
          have F3 := rF_tr (rF_wk (fr (nI 0)) (A' := [99, 4, 77, 71, 72, 2]) (Fm' := [51, 40, 41, 42, 43, 44, 46, 48]) (Gm' := [3, 50, 45]) (by decide) (by decide) (by decide)) (rF_wk hF2 (by decide) (by decide) (by decide))
          have e1 : ∀ r, r ∈ [40, 41, 42, 43, 44, 46, 47, 48] → f1 r = f r := fun r hr' => (hF1.2.1 r (fun q => by rw [List.mem_singleton.mp q] at hr'; revert hr'; decide))
          exact h fl a hfl hx ha1 ha2 hy tc t8 t24 v2 f2 g2 F3 ((hF2.1 99 (by decide)).trans upd_at) w2 (lfF_tr e1 (hF1.2.2 45 (by decide)) (lfF_of z43 o48 lo lo6 (fun c _ => by rw [hF2.2.1 47 (by decide)]))) hPr
  unfold r_near
  have rest : ∀ (b1 b2 : Bool), (b1 = false → ∀ k, k < 2 → x ≠ nI k) → (b1 = true → ∃ k, k < 2 ∧ x = nI k) → (b2 = false → ∀ a, 1 ≤ a → a ≤ 20 → y ≠ nI a) → (b2 = true → ∃ a, 1 ≤ a ∧ a ≤ 20 ∧ y = nI a) → r_hasTokens (fun r_3 v_3 f_3 g_3 => (r_3 = 0 → r_near_33 Q x y (bI b) (bI b2) (bI b1) v_3 f_3 g_3) ∧ (¬ r_3 = 0 → r_hasRoom (fun r_5 v_5 f_5 g_5 => (r_5 = 0 → r_near_33 Q x y (bI b) (bI b2) (bI b1) v_5 f_5 g_5) ∧ (¬ r_5 = 0 → r_near_34 Q x y (bI b) (nI 1) (bI b2) (bI b1) v_5 f_5 g_5)) v_3 f_3 g_3)) (nI 2) (nI 2) v f g := by
    intro b1 b2 q1 q2 q3 q4
    unfold r_near_33
    refine p_hasTokens (by decide) (by decide) hp hn hv hP hl (fun v1 f1 g1 hF1 e77 eT => w_B0 (fun e => core b1 b2 false _ _ _ hF1 e77 eT q1 q2 q3 q4 (fun c => absurd c (by decide)) (fun _ => Or.inl (by simp [inN] at e; omega))) (fun e => ?_))
    exact p_hasRoom (rPr_fr (hF1.1 71 (by decide)) (hF1.1 72 (by decide)) (fun r hr' => (hF1.2.1 r (fun q => by rw [List.mem_singleton.mp q] at hr'; revert hr'; decide))) (hF1.2.2 45 (by decide)) hr) (by omega) (by omega) (fun q => ⟨fun _ => core b1 b2 false _ _ _ hF1 e77 eT q1 q2 q3 q4 (fun c => absurd c (by decide)) (fun _ => Or.inr q), fun c => absurd rfl c⟩) (fun p8 p24 => ⟨fun c => absurd c (by decide), fun _ => core b1 b2 true _ _ _ hF1 e77 eT q1 q2 q3 q4 (fun _ => ⟨(show (tkP l P n).length = 2 from by simp [inN] at e; omega), p8, p24⟩) (fun c => absurd c (by decide))⟩)
  exact p_isField (fun q => p_in2 (lo := 1) (hi := 20) (by decide) (by decide) (fun q' => rest false false (fun _ => q) (fun c => absurd c (by decide)) (fun _ => q') (fun c => absurd c (by decide))) (fun a ha1 ha2 hy => rest false true (fun _ => q) (fun c => absurd c (by decide)) (fun c => absurd c (by decide)) (fun _ => ⟨a, ha1, ha2, hy⟩))) (fun k hk hx => p_in2 (lo := 1) (hi := 20) (by decide) (by decide) (fun q' => rest true false (fun c => absurd c (by decide)) (fun _ => ⟨k, hk, hx⟩) (fun _ => q') (fun c => absurd c (by decide))) (fun a ha1 ha2 hy => rest true true (fun c => absurd c (by decide)) (fun _ => ⟨k, hk, hx⟩) (fun c => absurd c (by decide)) (fun _ => ⟨a, ha1, ha2, hy⟩)))
theorem p_prefix {Q : QI} {x : Int32} (hp : mPow g) (hn : n ≤ 40) (hv : v 2 = nI n) (hP : ∀ j, j < n → f 2 j = nI (P j) ∧ P j < 65536) (hl : rLg v g l) (hr : rPr v f g m nd) (hm : (lfI nd m).length < 24 → m ≤ 47) (hpn : (qsS nd m).1 < 2 ^ 30) (hln : (lfI nd m).length < 2 ^ 30)
    (hF : (∀ k, k < 2 → x ≠ nI k) → ∀ v' f' g', rF [99, 4, 77] [51] [3, 50] v f g v' f' g' → v' 99 = nI 1 → Q (nI 0) v' f' g')
    (hS : ∀ fl, fl < 2 → x = nI fl → (wdC P n ≠ 1 ∨ 8 ≤ (qsS nd m).1 ∨ 24 ≤ (lfI nd m).length) → ∀ v' f' g', rF [99, 4, 77] [51] [3, 50] v f g v' f' g' → v' 99 = nI 2 → Q (nI 0) v' f' g')
    (h : ∀ fl, fl < 2 → x = nI fl → wdC P n = 1 → (qsS nd m).1 < 8 → (lfI nd m).length < 24 → ∀ v' f' g', rF [99, 4, 77, 71, 72, 2] [51, 40, 41, 42, 43, 44, 46, 48] [3, 50, 45] v f g v' f' g' → v' 99 = nI 0 → v' 2 = nI 0 → lfF f f' g g' → rPr v' f' g' (m + 1) (upR nd m ((3, fl, 0, 0), false, [], [], wdW P n 0)) → Q (nI ((qsS nd m).1 + 1)) v' f' g') : r_prefix Q x v f g := by
  have core : ∀ (b1 t : Bool) v1 f1 g1, rF [4, 77] [51] [3, 50] v f g v1 f1 g1 → (wdC P n = 1 → g1 3 0 = lN (wdW P n 0)) → (b1 = false → ∀ k, k < 2 → x ≠ nI k) → (b1 = true → ∃ k, k < 2 ∧ x = nI k) → (t = true → (wdC P n = 1) ∧ (qsS nd m).1 < 8 ∧ (lfI nd m).length < 24) → (t = false → (wdC P n ≠ 1 ∨ 8 ≤ (qsS nd m).1 ∨ 24 ≤ (lfI nd m).length)) → r_prefix_25 Q x (bI t) (bI b1) v1 f1 g1 := by
    intro b1 t v1 f1 g1 hF1 eW q1 q2 q5 q6
    have fr : ∀ t, rF [99, 4, 77] [51] [3, 50] v f g (upd v1 99 t) f1 g1 := fun t => ⟨fun i hi => (upd_n (fun e => hi (by rw [e]; decide))).trans (hF1.1 i (fun q => hi (List.mem_cons_of_mem _ q))), hF1.2.1, hF1.2.2⟩
    unfold r_prefix_25
    refine p_goes (b1 := b1) (b2 := t) (b3 := true) ?_
    cases b1 with
    | false => exact ⟨fun _ => hF (q1 rfl) _ f1 g1 (fr _) upd_at, fun c => absurd rfl c⟩
    | true =>
      obtain ⟨fl, hfl, hx⟩ := q2 rfl
      cases t with
      | false => exact ⟨fun _ => hS fl hfl hx (q6 rfl) _ f1 g1 (fr _) upd_at, fun c => absurd rfl c⟩
      | true =>
        obtain ⟨tc, t8, t24⟩ := q5 rfl
        refine ⟨fun c => absurd c (by decide), fun _ => ?_⟩
        have hr1 : rPr (upd v1 99 (nI 0)) f1 g1 m nd := rPr_fr ((fr _).1 71 (by decide)) ((fr _).1 72 (by decide)) (fun r hr' => (hF1.2.1 r (fun q => by rw [List.mem_singleton.mp q] at hr'; revert hr'; decide))) (hF1.2.2 45 (by decide)) hr
        rw [hx]
        refine p_leaf (v := upd v1 99 (nI 0)) (kd := 3) (fl := fl) (a := 0) (b := false) (d := ((3, fl, 0, 0), false, [], [], wdW P n 0)) (T := []) hr1 (hm t24) rfl (by decide) rfl rfl rfl (Nat.zero_le _) (fun q => absurd q (by decide)) (fun q => absurd q (by decide)) (fun _ => rfl) (fun _ => eW tc) ⟨Nat.zero_le _, fun q => absurd q (by decide)⟩ hpn hln (fun v2 f2 g2 hF2 w2 z43 s48 o48 lo lo6 hPr => ?_)
        have F3 := rF_tr (rF_wk (fr (nI 0)) (A' := [99, 4, 77, 71, 72, 2]) (Fm' := [51, 40, 41, 42, 43, 44, 46, 48]) (Gm' := [3, 50, 45]) (by decide) (by decide) (by decide)) (rF_wk hF2 (by decide) (by decide) (by decide))
        have e1 : ∀ r, r ∈ [40, 41, 42, 43, 44, 46, 47, 48] → f1 r = f r := fun r hr' => (hF1.2.1 r (fun q => by rw [List.mem_singleton.mp q] at hr'; revert hr'; decide))
        exact h fl hfl hx tc t8 t24 v2 f2 g2 F3 ((hF2.1 99 (by decide)).trans upd_at) w2 (lfF_tr e1 (hF1.2.2 45 (by decide)) (lfF_of z43 o48 lo lo6 (fun c _ => by rw [hF2.2.1 47 (by decide)]))) hPr
  unfold r_prefix
  have rest : ∀ (b1 : Bool), (b1 = false → ∀ k, k < 2 → x ≠ nI k) → (b1 = true → ∃ k, k < 2 ∧ x = nI k) → r_hasWordAlone (fun r_2 v_2 f_2 g_2 => (r_2 = 0 → r_prefix_24 Q x (bI b1) v_2 f_2 g_2) ∧ (¬ r_2 = 0 → r_hasRoom (fun r_5 v_5 f_5 g_5 => (r_5 = 0 → r_prefix_24 Q x (bI b1) v_5 f_5 g_5) ∧ (¬ r_5 = 0 → r_prefix_25 Q x (nI 1) (bI b1) v_5 f_5 g_5)) v_2 f_2 g_2)) v f g := by
    intro b1 q1 q2
    unfold r_hasWordAlone r_prefix_24
    have wl := wdC_le P n
    refine p_reads hp hn hv hP (fun r hr' => ?_)
    have hF1 : rF [4, 77] [51] [3, 50] v f g (upd v 4 (nI (wdC P n))) f (sR g 3 r) := ⟨fun i hi => upd_n (fun e => hi (by rw [e]; decide)), fun _ _ => rfl, fun k hk => sR_n (fun e => hk (by rw [e]; decide))⟩
    have eW : wdC P n = 1 → (sR g 3 r) 3 0 = lN (wdW P n 0) := fun e => by rw [sR_s]; exact hr' 0 (by omega)
    have v4 : (upd v 4 (nI (wdC P n))) 4 = nI (wdC P n) := upd_at
    rw [v4]
    refine w_ne (wdC P n) 1 (fun c => ⟨fun _ => core b1 false _ _ _ hF1 eW q1 q2 (fun c => absurd c (by decide)) (fun _ => Or.inl c), fun c => absurd rfl c⟩) (fun c => ⟨fun c => absurd c (by decide), fun _ => ?_⟩)
    exact p_hasRoom (rPr_fr (hF1.1 71 (by decide)) (hF1.1 72 (by decide)) (fun r hr' => (hF1.2.1 r (fun q => by rw [List.mem_singleton.mp q] at hr'; revert hr'; decide))) (hF1.2.2 45 (by decide)) hr) (by omega) (by omega) (fun q => ⟨fun _ => core b1 false _ _ _ hF1 eW q1 q2 (fun c => absurd c (by decide)) (fun _ => Or.inr q), fun c => absurd rfl c⟩) (fun p8 p24 => ⟨fun c => absurd c (by decide), fun _ => core b1 true _ _ _ hF1 eW q1 q2 (fun _ => ⟨c, p8, p24⟩) (fun c => absurd c (by decide))⟩)
  exact p_isField (fun q => rest false (fun _ => q) (fun c => absurd c (by decide))) (fun k hk hx => rest true (fun c => absurd c (by decide)) (fun _ => ⟨k, hk, hx⟩))
theorem p_fuzzy {Q : QI} {x y : Int32} (hp : mPow g) (hn : n ≤ 40) (hv : v 2 = nI n) (hP : ∀ j, j < n → f 2 j = nI (P j) ∧ P j < 65536) (hl : rLg v g l) (hr : rPr v f g m nd) (hm : (lfI nd m).length < 24 → m ≤ 47) (hpn : (qsS nd m).1 < 2 ^ 30) (hln : (lfI nd m).length < 2 ^ 30)
    (hF : (∀ k, k < 2 → x ≠ nI k) → ∀ v' f' g', rF [99, 4, 77] [51] [3, 50] v f g v' f' g' → v' 99 = nI 1 → Q (nI 0) v' f' g')
    (hA : ∀ fl, fl < 2 → x = nI fl → (∀ a, 0 ≤ a → a ≤ 2 → y ≠ nI a) → ∀ v' f' g', rF [99, 4, 77] [51] [3, 50] v f g v' f' g' → v' 99 = nI 2 → Q (nI 0) v' f' g')
    (hS : ∀ fl a, fl < 2 → x = nI fl → 0 ≤ a → a ≤ 2 → y = nI a → (wdC P n ≠ 1 ∨ 8 ≤ (qsS nd m).1 ∨ 24 ≤ (lfI nd m).length) → ∀ v' f' g', rF [99, 4, 77] [51] [3, 50] v f g v' f' g' → v' 99 = nI 3 → Q (nI 0) v' f' g')
    (h : ∀ fl a, fl < 2 → x = nI fl → 0 ≤ a → a ≤ 2 → y = nI a → wdC P n = 1 → (qsS nd m).1 < 8 → (lfI nd m).length < 24 → ∀ v' f' g', rF [99, 4, 77, 71, 72, 2] [51, 40, 41, 42, 43, 44, 46, 48] [3, 50, 45] v f g v' f' g' → v' 99 = nI 0 → v' 2 = nI 0 → lfF f f' g g' → rPr v' f' g' (m + 1) (upR nd m ((5, fl, a, 0), false, [], [], wdW P n 0)) → Q (nI ((qsS nd m).1 + 1)) v' f' g') : r_fuzzy Q x y v f g := by
  have core : ∀ (b1 b2 t : Bool) v1 f1 g1, rF [4, 77] [51] [3, 50] v f g v1 f1 g1 → (wdC P n = 1 → g1 3 0 = lN (wdW P n 0)) → (b1 = false → ∀ k, k < 2 → x ≠ nI k) → (b1 = true → ∃ k, k < 2 ∧ x = nI k) → (b2 = false → ∀ a, 0 ≤ a → a ≤ 2 → y ≠ nI a) → (b2 = true → ∃ a, 0 ≤ a ∧ a ≤ 2 ∧ y = nI a) → (t = true → (wdC P n = 1) ∧ (qsS nd m).1 < 8 ∧ (lfI nd m).length < 24) → (t = false → (wdC P n ≠ 1 ∨ 8 ≤ (qsS nd m).1 ∨ 24 ≤ (lfI nd m).length)) → r_fuzzy_31 Q x y (bI t) (bI b2) (bI b1) v1 f1 g1 := by
    intro b1 b2 t v1 f1 g1 hF1 eW q1 q2 q3 q4 q5 q6
    have fr : ∀ t, rF [99, 4, 77] [51] [3, 50] v f g (upd v1 99 t) f1 g1 := fun t => ⟨fun i hi => (upd_n (fun e => hi (by rw [e]; decide))).trans (hF1.1 i (fun q => hi (List.mem_cons_of_mem _ q))), hF1.2.1, hF1.2.2⟩
    unfold r_fuzzy_31
    refine p_goes (b1 := b1) (b2 := b2) (b3 := t) ?_
    cases b1 with
    | false => exact ⟨fun _ => hF (q1 rfl) _ f1 g1 (fr _) upd_at, fun c => absurd rfl c⟩
    | true =>
      obtain ⟨fl, hfl, hx⟩ := q2 rfl
      cases b2 with
      | false => exact ⟨fun _ => hA fl hfl hx (q3 rfl) _ f1 g1 (fr _) upd_at, fun c => absurd rfl c⟩
      | true =>
        obtain ⟨a, ha1, ha2, hy⟩ := q4 rfl
        cases t with
        | false => exact ⟨fun _ => hS fl a hfl hx ha1 ha2 hy (q6 rfl) _ f1 g1 (fr _) upd_at, fun c => absurd rfl c⟩
        | true =>
          obtain ⟨tc, t8, t24⟩ := q5 rfl
          refine ⟨fun c => absurd c (by decide), fun _ => ?_⟩
          have hr1 : rPr (upd v1 99 (nI 0)) f1 g1 m nd := rPr_fr ((fr _).1 71 (by decide)) ((fr _).1 72 (by decide)) (fun r hr' => (hF1.2.1 r (fun q => by rw [List.mem_singleton.mp q] at hr'; revert hr'; decide))) (hF1.2.2 45 (by decide)) hr
          rw [hx, hy]
          refine p_leaf (v := upd v1 99 (nI 0)) (kd := 5) (fl := fl) (a := a) (b := false) (d := ((5, fl, a, 0), false, [], [], wdW P n 0)) (T := []) hr1 (hm t24) rfl (by decide) rfl rfl rfl (Nat.zero_le _) (fun q => absurd q (by decide)) (fun q => absurd q (by decide)) (fun _ => rfl) (fun _ => eW tc) ⟨Nat.zero_le _, fun q => absurd q (by decide)⟩ hpn hln (fun v2 f2 g2 hF2 w2 z43 s48 o48 lo lo6 hPr => ?_)
          have F3 := rF_tr (rF_wk (fr (nI 0)) (A' := [99, 4, 77, 71, 72, 2]) (Fm' := [51, 40, 41, 42, 43, 44, 46, 48]) (Gm' := [3, 50, 45]) (by decide) (by decide) (by decide)) (rF_wk hF2 (by decide) (by decide) (by decide))
          have e1 : ∀ r, r ∈ [40, 41, 42, 43, 44, 46, 47, 48] → f1 r = f r := fun r hr' => (hF1.2.1 r (fun q => by rw [List.mem_singleton.mp q] at hr'; revert hr'; decide))
          exact h fl a hfl hx ha1 ha2 hy tc t8 t24 v2 f2 g2 F3 ((hF2.1 99 (by decide)).trans upd_at) w2 (lfF_tr e1 (hF1.2.2 45 (by decide)) (lfF_of z43 o48 lo lo6 (fun c _ => by rw [hF2.2.1 47 (by decide)]))) hPr
  unfold r_fuzzy
  have rest : ∀ (b1 b2 : Bool), (b1 = false → ∀ k, k < 2 → x ≠ nI k) → (b1 = true → ∃ k, k < 2 ∧ x = nI k) → (b2 = false → ∀ a, 0 ≤ a → a ≤ 2 → y ≠ nI a) → (b2 = true → ∃ a, 0 ≤ a ∧ a ≤ 2 ∧ y = nI a) → r_hasWordAlone (fun r_3 v_3 f_3 g_3 => (r_3 = 0 → r_fuzzy_30 Q x y (bI b2) (bI b1) v_3 f_3 g_3) ∧ (¬ r_3 = 0 → r_hasRoom (fun r_5 v_5 f_5 g_5 => (r_5 = 0 → r_fuzzy_30 Q x y (bI b2) (bI b1) v_5 f_5 g_5) ∧ (¬ r_5 = 0 → r_fuzzy_31 Q x y (nI 1) (bI b2) (bI b1) v_5 f_5 g_5)) v_3 f_3 g_3)) v f g := by
    intro b1 b2 q1 q2 q3 q4
    unfold r_hasWordAlone r_fuzzy_30
    have wl := wdC_le P n
    refine p_reads hp hn hv hP (fun r hr' => ?_)
    have hF1 : rF [4, 77] [51] [3, 50] v f g (upd v 4 (nI (wdC P n))) f (sR g 3 r) := ⟨fun i hi => upd_n (fun e => hi (by rw [e]; decide)), fun _ _ => rfl, fun k hk => sR_n (fun e => hk (by rw [e]; decide))⟩
    have eW : wdC P n = 1 → (sR g 3 r) 3 0 = lN (wdW P n 0) := fun e => by rw [sR_s]; exact hr' 0 (by omega)
    have v4 : (upd v 4 (nI (wdC P n))) 4 = nI (wdC P n) := upd_at
    rw [v4]
    refine w_ne (wdC P n) 1 (fun c => ⟨fun _ => core b1 b2 false _ _ _ hF1 eW q1 q2 q3 q4 (fun c => absurd c (by decide)) (fun _ => Or.inl c), fun c => absurd rfl c⟩) (fun c => ⟨fun c => absurd c (by decide), fun _ => ?_⟩)
    exact p_hasRoom (rPr_fr (hF1.1 71 (by decide)) (hF1.1 72 (by decide)) (fun r hr' => (hF1.2.1 r (fun q => by rw [List.mem_singleton.mp q] at hr'; revert hr'; decide))) (hF1.2.2 45 (by decide)) hr) (by omega) (by omega) (fun q => ⟨fun _ => core b1 b2 false _ _ _ hF1 eW q1 q2 q3 q4 (fun c => absurd c (by decide)) (fun _ => Or.inr q), fun c => absurd rfl c⟩) (fun p8 p24 => ⟨fun c => absurd c (by decide), fun _ => core b1 b2 true _ _ _ hF1 eW q1 q2 q3 q4 (fun _ => ⟨c, p8, p24⟩) (fun c => absurd c (by decide))⟩)
  exact p_isField (fun q => p_in2 (lo := 0) (hi := 2) (by decide) (by decide) (fun q' => rest false false (fun _ => q) (fun c => absurd c (by decide)) (fun _ => q') (fun c => absurd c (by decide))) (fun a ha1 ha2 hy => rest false true (fun _ => q) (fun c => absurd c (by decide)) (fun c => absurd c (by decide)) (fun _ => ⟨a, ha1, ha2, hy⟩))) (fun k hk hx => p_in2 (lo := 0) (hi := 2) (by decide) (by decide) (fun q' => rest true false (fun c => absurd c (by decide)) (fun _ => ⟨k, hk, hx⟩) (fun _ => q') (fun c => absurd c (by decide))) (fun a ha1 ha2 hy => rest true true (fun c => absurd c (by decide)) (fun _ => ⟨k, hk, hx⟩) (fun c => absurd c (by decide)) (fun _ => ⟨a, ha1, ha2, hy⟩)))
end TM
