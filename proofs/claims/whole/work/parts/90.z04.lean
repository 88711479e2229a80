/-! the reference: nodes; tokens of the pad; leaves -/
def amN (d : Nd) : Nat := if nK d = 4 then (nQ d).length else if nK d = 7 then 0 else nL d
def mnN (d : Nd) : Nat := if nK d ≤ 2 then (nT d).length else if nK d < 6 then 1 else nP d
/-- a node in rows -/
def rNd (f : Nat → Nat → Int32) (g : Nat → Nat → Int64) (o : Nat) (d : Nd) : Prop := (f 40 o = nI (nK d) ∧ nK d < 8) ∧ (nK d < 6 → f 41 o = nI (nF d)) ∧ f 42 o = nI (amN d) ∧ (nK d < 6 → f 43 o = bI (nO d)) ∧ f 44 o = nI (mnN d) ∧ ((nT d).length ≤ 6 ∧ (nQ d).length ≤ 12) ∧ (nK d ≤ 2 → ∀ k x, (nT d)[k]? = some x → g 45 (6 * o + k) = x.1 ∧ f 46 (6 * o + k) = nI x.2) ∧ (nK d = 3 ∨ nK d = 5 → g 45 (6 * o) = lN (nW d)) ∧ (nK d = 4 → ∀ k x, (nQ d)[k]? = some x → f 47 (12 * o + k) = nI x)
theorem rNd_cp {f f' : Nat → Nat → Int32} {g g' : Nat → Nat → Int64} {o o' : Nat} {d : Nd} (h : rNd f g o d) (e0 : f' 40 o' = f 40 o) (e1 : f' 41 o' = f 41 o) (e2 : f' 42 o' = f 42 o) (e3 : f' 43 o' = f 43 o) (e4 : f' 44 o' = f 44 o) (e5 : ∀ k, k < 6 → g' 45 (6 * o' + k) = g 45 (6 * o + k)) (e6 : ∀ k, k < 6 → f' 46 (6 * o' + k) = f 46 (6 * o + k)) (e7 : ∀ k, k < 12 → f' 47 (12 * o' + k) = f 47 (12 * o + k)) : rNd f' g' o' d := by
  obtain ⟨⟨h1, h1'⟩, h2, h3, h4, h5, ⟨h6, h6'⟩, h7, h8, h9⟩ := h
  refine ⟨⟨e0.trans h1, h1'⟩, fun q => e1.trans (h2 q), e2.trans h3, fun q => e3.trans (h4 q), e4.trans h5, ⟨h6, h6'⟩, fun q k x hk => ?_, fun q => ?_, fun q k x hk => ?_⟩
  · have := get_lt hk
    rw [e5 k (by omega), e6 k (by omega)]; exact h7 q k x hk
  · have := e5 0 (by decide)
    rw [Nat.add_zero, Nat.add_zero] at this
    exact this.trans (h8 q)
  · have := get_lt hk
    rw [e7 k (by omega)]; exact h9 q k x hk
/-- the parts in rows -/
def rPr (v : Nat → Int32) (f : Nat → Nat → Int32) (g : Nat → Nat → Int64) (m : Nat) (nd : Nat → Nd) : Prop := f 48 40 = nI m ∧ v 71 = nI (lfI nd m).length ∧ v 72 = nI (qsS nd m).1 ∧ ∀ k, k < m → rNd f g (1920 + k) (nd k)
/-- tokens of the pad -/
noncomputable def tkP (l : LGt) (P : Nat → Nat) (n : Nat) : List (Int64 × Nat) := tkL l.1 l.2.1 0 l.2.2.2 (fun k => lN (stW (wdW P n k))) (wdC P n)
section LV
variable {v v' : Nat → Int32} {f f' : Nat → Nat → Int32} {g g' : Nat → Nat → Int64} {l : LGt} {n m : Nat} {P : Nat → Nat} {nd : Nat → Nd}
theorem tkP_s {k : Nat} {F S : Nat → Int64} {stp : Int64 → Bool} {st : Nat → Int64} : tkL F S 0 stp st (k + 1) = tkL F S 0 stp st k ++ (if stp (st k) = true then [] else [(st k, k)]) := by
  rw [tkL]
  split
  · rw [List.append_nil]
  · rfl
theorem p_hasTokens {Q : QI} {lo hi : Nat} (hlo : lo < 2 ^ 31) (hhi : hi < 2 ^ 31) (hp : mPow g) (hn : n ≤ 40) (hv : v 2 = nI n) (hP : ∀ j, j < n → f 2 j = nI (P j) ∧ P j < 65536) (hl : rLg v g l) (h : ∀ v' f' g', rF [4, 77] [51] [3, 50] v f g v' f' g' → v' 77 = nI (tkP l P n).length → (∀ i x, (tkP l P n)[i]? = some x → g' 50 i = x.1 ∧ f' 51 i = nI x.2) → Q (bI (inN (tkP l P n).length lo hi)) v' f' g') : r_hasTokens Q (nI lo) (nI hi) v f g := by
  have w20 := wdC_le P n
  have wlt : ∀ j, wdW P n j < 37 ^ 12 := fun j => wdW_lt P n j
  unfold r_hasTokens
  refine p_reads hp hn hv hP (fun r hr => ?_)
  rintro v2 e2
  have v2o : ∀ i, i ≠ 4 → i ≠ 77 → v2 i = v i := fun i h1 h2 => by rw [e2, upd_n h2, upd_n h1]
  have v24 : v2 4 = nI (wdC P n) := by rw [e2, upd_n (by decide)]; exact upd_at
  have v277 : v2 77 = nI 0 := by rw [e2]; exact upd_at
  obtain ⟨st, hst⟩ : ∃ st : Nat → Int64, st = fun k => lN (stW (wdW P n k)) := ⟨_, rfl⟩
  have hT : tkP l P n = tkL l.1 l.2.1 0 l.2.2.2 st (wdC P n) := by rw [hst]; rfl
  rw [hT] at h
  have tl : ∀ k, (tkL l.1 l.2.1 0 l.2.2.2 st k).length ≤ k := fun k => by
    have := tkL_len (F := l.1) (S := l.2.1) (yn := 0) (stp := l.2.2.2) (st := st) k
    rwa [Nat.zero_add, Nat.one_mul] at this
  unfold r_hasTokens_11L
  refine lfp_cnt (wdC P n) (fun k y => ∃ v' f' g', (∀ i, i ≠ 77 → v' i = v2 i) ∧ (∀ m, m ≠ 51 → f' m = f m) ∧ (∀ m, m ≠ 50 → g' m = (sR g 3 r) m) ∧ v' 77 = nI (tkL l.1 l.2.1 0 l.2.2.2 st k).length ∧ (∀ i x, (tkL l.1 l.2.1 0 l.2.2.2 st k)[i]? = some x → g' 50 i = x.1 ∧ f' 51 i = nI x.2) ∧ y = (nI lo, nI hi, nI k, v', f', g')) ?_ ⟨v2, f, sR g 3 r, fun _ _ => rfl, fun _ _ => rfl, fun _ _ => rfl, v277, fun i x hi => absurd (get_lt hi) (Nat.not_lt_zero i), rfl⟩
  rintro P1 k _ hk ⟨v', f', g', a1, a2, a3, a4, a5, rfl⟩ ih
  show r_hasTokens_11 Q _ (nI lo) (nI hi) (nI k) v' f' g'
  have tlk := tl k
  unfold r_hasTokens_11
  rw [a1 4 (by decide), v24, a4]
  refine pk_le (wdC P n) k (fun z => ?_) (fun z => ⟨pk_in k 20 (by omega), ?_⟩)
  · obtain rfl : k = wdC P n := by omega
    refine p_inN (by omega) hlo hhi ⟨⟨_, rfl⟩, h v' f' g' ⟨fun i hi => ?_, fun m hm => a2 m (fun e => hm (by rw [e]; decide)), fun m hm => ?_⟩ a4 a5⟩
    · rw [a1 i (fun e => hi (by rw [e]; decide))]
      exact v2o i (fun e => hi (by rw [e]; decide)) (fun e => hi (by rw [e]; decide))
    · rw [a3 m (fun e => hm (by rw [e]; decide))]
      exact sR_n (fun e => hm (by rw [e]; decide))
  have g3 : g' 3 = r := by rw [a3 3 (by decide)]; exact sR_s
  have go : ∀ v6 f6 g6, (∀ i, i ≠ 77 → v6 i = v2 i) → (∀ m, m ≠ 51 → f6 m = f m) → (∀ m, m ≠ 50 → g6 m = (sR g 3 r) m) → v6 77 = nI (tkL l.1 l.2.1 0 l.2.2.2 st (k + 1)).length → (∀ i x, (tkL l.1 l.2.1 0 l.2.2.2 st (k + 1))[i]? = some x → g6 50 i = x.1 ∧ f6 51 i = nI x.2) → r_hasTokens_75 Q (fun b0 b1 b2 v f g => P1 (b0, b1, b2, v, f, g)) (nI lo) (nI hi) (nI k) v6 f6 g6 := by
    intro v6 f6 g6 x1 x2 x3 x4 x5
    unfold r_hasTokens_75
    rintro _ rfl
    rw [nI_add]
    exact ih _ z ⟨v6, f6, g6, x1, x2, x3, x4, x5, rfl⟩
  have hp' : mPow g' := mPow_fr (by rw [a3 1 (by decide)]; exact sR_n (by decide)) hp
  have hl' : rLg v' g' l := rLg_fr ((a1 9 (by decide)).trans (v2o 9 (by decide) (by decide))) ((a1 6 (by decide)).trans (v2o 6 (by decide) (by decide))) (by rw [a3 4 (by decide)]; exact sR_n (by decide)) (by rw [a3 5 (by decide)]; exact sR_n (by decide)) (by rw [a3 6 (by decide)]; exact sR_n (by decide)) hl
  have wk := wlt k
  have stk : st k = lN (stW (wdW P n k)) := by rw [hst]
  rw [nI_clamp (show k < 2 ^ 31 by omega), g3, hr k z]
  refine p_stem (w := wdW P n k) (by omega) hp' ?_
  rw [← stk]
  refine p_isStopL hl' (w_bn (l.2.2.2 (st k)) (fun e => go v' f' g' a1 a2 a3 ?_ ?_) (fun e => ⟨pk_in k 20 (by omega), ?_⟩))
  · rw [tkP_s, if_pos e, List.append_nil]; exact a4
  · rw [tkP_s, if_pos e, List.append_nil]; exact a5
  have ts : tkL l.1 l.2.1 0 l.2.2.2 st (k + 1) = tkL l.1 l.2.1 0 l.2.2.2 st k ++ [(st k, k)] := by rw [tkP_s, if_neg (by rw [e]; decide)]
  rw [g3, hr k z]
  refine p_stem (w := wdW P n k) (by omega) hp' ?_
  rw [← stk]
  have vin : vp_in (nI (tkL l.1 l.2.1 0 l.2.2.2 st k).length) 20 := pk_in (tkL l.1 l.2.1 0 l.2.2.2 st k).length 20 (by omega)
  rw [a4]
  refine ⟨vin, fun g8 e8 => ⟨vin, fun f9 e9 v10 e10 => ?_⟩⟩
  rw [nI_clamp (show (tkL l.1 l.2.1 0 l.2.2.2 st k).length < 2 ^ 31 by omega)] at e8 e9
  rw [nI_add] at e10
  have r50 : g8 50 = fun i => if i = (tkL l.1 l.2.1 0 l.2.2.2 st k).length then st k else g' 50 i := by rw [e8, mU_s]
  have r51 : f9 51 = fun i => if i = (tkL l.1 l.2.1 0 l.2.2.2 st k).length then nI k else f' 51 i := by rw [e9, mU_s]
  refine go v10 f9 g8 (fun i hi => by rw [e10, upd_n hi]; exact a1 i hi) (fun m hm => by rw [e9, mU_n hm]; exact a2 m hm) (fun m hm => by rw [e8, mU_n hm]; exact a3 m hm) (by rw [e10, ts, List.length_append]; exact upd_at) (fun i x hi => ?_)
  rw [ts] at hi
  rw [r50, r51]
  show (if i = _ then st k else g' 50 i) = x.1 ∧ (if i = _ then nI k else f' 51 i) = nI x.2
  rcases app1_get.mp hi with hi | ⟨h1, h2⟩
  · rw [if_neg (by have := get_lt hi; omega), if_neg (by have := get_lt hi; omega)]; exact a5 i x hi
  · rw [if_pos h1, if_pos h1, h2]; exact ⟨rfl, rfl⟩
theorem p_hasRoom {Q : QI} (hr : rPr v f g m nd) (h24 : (lfI nd m).length < 2 ^ 31) (h8 : (qsS nd m).1 < 2 ^ 31) (h0 : (8 ≤ (qsS nd m).1 ∨ 24 ≤ (lfI nd m).length) → Q (bI false) v f g) (h1 : (qsS nd m).1 < 8 → (lfI nd m).length < 24 → Q (bI true) v f g) : r_hasRoom Q v f g := by
  unfold r_hasRoom
  rw [hr.2.2.1, hr.2.1]
  exact pk_le 8 (qsS nd m).1 (fun z => h0 (Or.inl z)) (fun z => pk_le 24 (lfI nd m).length (fun z2 => h0 (Or.inr z2)) (fun z2 => h1 z z2))
/-- a leaf is put -/
theorem p_leaf {Q : QI} {kd fl a : Nat} {b : Bool} {d : Nd} {T : List (Int64 × Nat)} (hr : rPr v f g m nd) (hm : m ≤ 47) (hk : nK d = kd) (hk6 : kd < 6) (hf : nF d = fl) (ha : amN d = a) (hb : nO d = b) (hTl : T.length ≤ 20) (h77 : kd ≤ 2 → v 77 = nI T.length) (hT : kd ≤ 2 → nT d = T ∧ T.length ≤ 6 ∧ ∀ i x, T[i]? = some x → g 50 i = x.1 ∧ f 51 i = nI x.2) (hT3 : 3 ≤ kd → nT d = []) (hW : kd = 3 ∨ kd = 5 → g 3 0 = lN (nW d)) (hQ : (nQ d).length ≤ 12 ∧ (kd = 4 → ∀ k x, (nQ d)[k]? = some x → f 47 (12 * (1920 + m) + k) = nI x)) (hpn : (qsS nd m).1 < 2 ^ 30) (hln : (lfI nd m).length < 2 ^ 30) (h : ∀ v' f' g', rF [71, 72, 2] [40, 41, 42, 43, 44, 46, 48] [45] v f g v' f' g' → v' 2 = nI 0 → zK f f' 43 → f' 48 40 = nI (m + 1) → (∀ i, i ≠ 40 → f' 48 i = f 48 i) → (∀ c, c < 1920 + m → f' 40 c = f 40 c ∧ f' 41 c = f 41 c ∧ f' 42 c = f 42 c ∧ f' 43 c = f 43 c ∧ f' 44 c = f 44 c) → (∀ c, c < 6 * (1920 + m) → f' 46 c = f 46 c ∧ g' 45 c = g 45 c) → rPr v' f' g' (m + 1) (upR nd m d) → Q (nI ((qsS nd m).1 + 1)) v' f' g') : r_leaf Q (nI kd) (nI fl) (nI a) (bI b) v f g := by
  obtain ⟨p1, p2, p3, p4⟩ := id hr
  have c40 : (nI 40).toNatClampNeg = 40 := nI_clamp (by decide)
  unfold r_leaf r_draftAt
  dsimp only
  rw [c40, p1, nI_add]
  refine ⟨pk_in 40 41 (by decide), ?_⟩
  rintro _ rfl
  have inc : vp_in (nI (1920 + m)) 1968 := pk_in (1920 + m) 1968 (by omega)
  have cl : (nI (1920 + m)).toNatClampNeg = 1920 + m := nI_clamp (by omega)
  rw [cl]
  refine ⟨inc, fun f3 e3 => ⟨inc, fun f4 e4 => ⟨inc, fun f5 e5 => ⟨inc, ⟨_, rfl⟩, fun f6 e6 => ⟨inc, fun f7 e7 => ?_⟩⟩⟩⟩⟩
  have o7 : ∀ r, r ≠ 40 → r ≠ 41 → r ≠ 42 → r ≠ 43 → r ≠ 44 → f7 r = f r := fun r h0 h1 h2 h3 h4 => by rw [e7, mU_n h4, e6, mU_n h3, e5, mU_n h2, e4, mU_n h1, e3, mU_n h0]
  have r40 : f7 40 = fun c => if c = 1920 + m then nI kd else f 40 c := by rw [e7, mU_n (by decide), e6, mU_n (by decide), e5, mU_n (by decide), e4, mU_n (by decide), e3, mU_s]
  have r41 : f7 41 = fun c => if c = 1920 + m then nI fl else f 41 c := by rw [e7, mU_n (by decide), e6, mU_n (by decide), e5, mU_n (by decide), e4, mU_s, e3, mU_n (by decide)]
  have r42 : f7 42 = fun c => if c = 1920 + m then nI a else f 42 c := by rw [e7, mU_n (by decide), e6, mU_n (by decide), e5, mU_s, e4, mU_n (by decide), e3, mU_n (by decide)]
  have r43 : f7 43 = fun c => if c = 1920 + m then bI b else f 43 c := by rw [e7, mU_n (by decide), e6, mU_s, e5, mU_n (by decide), e4, mU_n (by decide), e3, mU_n (by decide)]
  have r44 : f7 44 = fun c => if c = 1920 + m then v 77 else f 44 c := by rw [e7, mU_s, e6, mU_n (by decide), e5, mU_n (by decide), e4, mU_n (by decide), e3, mU_n (by decide)]
  -- the end
  have fin : ∀ f8 g8, (∀ r, r ≠ 44 → r ≠ 46 → f8 r = f7 r) → (∀ r, r ≠ 45 → g8 r = g r) → (∀ c, c < 1920 + m → f8 44 c = f 44 c) → f8 44 (1920 + m) = nI (mnN d) → (∀ c, c < 6 * (1920 + m) → f8 46 c = f 46 c ∧ g8 45 c = g 45 c) → (kd ≤ 2 → ∀ k x, (nT d)[k]? = some x → g8 45 (6 * (1920 + m) + k) = x.1 ∧ f8 46 (6 * (1920 + m) + k) = nI x.2) → (kd = 3 ∨ kd = 5 → g8 45 (6 * (1920 + m)) = lN (nW d)) → r_leaf_149 Q v f8 g8 := by
    intro f8 g8 a1 a2 a3 a4 a5 a6 a7
    have e48 : f8 48 = f 48 := (a1 48 (by decide) (by decide)).trans (o7 48 (by decide) (by decide) (by decide) (by decide) (by decide))
    unfold r_leaf_149
    refine ⟨pk_in 40 41 (by decide), pk_in 40 41 (by decide), fun f9 e9 v9 e10 v10 e11 v11 e12 => ?_⟩
    rw [c40, e48, p1, nI_add] at e9
    rw [p2, nI_add] at e10
    have v972 : v9 72 = nI (qsS nd m).1 := by rw [e10, upd_n (by decide)]; exact p3
    rw [v972, nI_add] at e11
    have w72 : v11 72 = nI ((qsS nd m).1 + 1) := by rw [e12, upd_n (by decide), e11]; exact upd_at
    have w71 : v11 71 = nI ((lfI nd m).length + 1) := by rw [e12, upd_n (by decide), e11, upd_n (by decide), e10]; exact upd_at
    have w2 : v11 2 = nI 0 := by rw [e12]; exact upd_at
    have vo : ∀ i, i ≠ 2 → i ≠ 71 → i ≠ 72 → v11 i = v i := fun i h1 h2 h3 => by rw [e12, upd_n h1, e11, upd_n h3, e10, upd_n h2]
    have s48 : f9 48 = fun c => if c = 40 then nI (m + 1) else f 48 c := by rw [e9, mU_s, e48]
    have o9 : ∀ r, r ≠ 48 → f9 r = f8 r := fun r hr' => by rw [e9, mU_n hr']
    have q40 : f9 40 = fun c => if c = 1920 + m then nI kd else f 40 c := (o9 40 (by decide)).trans ((a1 40 (by decide) (by decide)).trans r40)
    have q41 : f9 41 = fun c => if c = 1920 + m then nI fl else f 41 c := (o9 41 (by decide)).trans ((a1 41 (by decide) (by decide)).trans r41)
    have q42 : f9 42 = fun c => if c = 1920 + m then nI a else f 42 c := (o9 42 (by decide)).trans ((a1 42 (by decide) (by decide)).trans r42)
    have q43 : f9 43 = fun c => if c = 1920 + m then bI b else f 43 c := (o9 43 (by decide)).trans ((a1 43 (by decide) (by decide)).trans r43)
    have q47 : f9 47 = f 47 := (o9 47 (by decide)).trans ((a1 47 (by decide) (by decide)).trans (o7 47 (by decide) (by decide) (by decide) (by decide) (by decide)))
    have lo : ∀ c, c < 1920 + m → f9 40 c = f 40 c ∧ f9 41 c = f 41 c ∧ f9 42 c = f 42 c ∧ f9 43 c = f 43 c ∧ f9 44 c = f 44 c := fun c hc => by
      rw [q40, q41, q42, q43, o9 44 (by decide)]
      exact ⟨if_neg (by omega), if_neg (by omega), if_neg (by omega), if_neg (by omega), a3 c hc⟩
    have lo6 : ∀ c, c < 6 * (1920 + m) → f9 46 c = f 46 c ∧ g8 45 c = g 45 c := fun c hc => by rw [o9 46 (by decide)]; exact a5 c hc
    have isl : nLf d = true := by unfold nLf; rw [hk]; exact decide_eq_true hk6
    have um : upR nd m d m = d := upR_s
    have ul : ∀ k, k < m → upR nd m d k = nd k := fun k hk' => upR_n (by omega)
    have qe : qsS (upR nd m d) m = qsS nd m := qsS_ext ul
    have le : lfI (upR nd m d) m = lfI nd m := lfI_ext ul
    rw [w72]
    refine h v11 f9 g8 ⟨fun i hi => vo i (fun e => hi (by rw [e]; decide)) (fun e => hi (by rw [e]; decide)) (fun e => hi (by rw [e]; decide)), fun r hr' => ?_, fun r hr' => a2 r (fun e => hr' (by rw [e]; decide))⟩ w2 (zK_up q43) (by rw [s48]; exact if_pos rfl) (fun i hi => by rw [s48]; exact if_neg hi) lo lo6 ⟨by rw [s48]; exact if_pos rfl, ?_, ?_, fun k hk' => ?_⟩
    · have ne : ∀ q, q ∈ [40, 41, 42, 43, 44, 46, 48] → r ≠ q := fun q hq e => hr' (by rw [e]; exact hq)
      rw [o9 r (ne 48 (by decide)), a1 r (ne 44 (by decide)) (ne 46 (by decide))]
      exact o7 r (ne 40 (by decide)) (ne 41 (by decide)) (ne 42 (by decide)) (ne 43 (by decide)) (ne 44 (by decide))
    · rw [w71, lfI_s (by rw [um]; exact isl), le]
    · rw [w72, qs_s (by rw [um]; exact isl), qe]
    · by_cases c : k = m
      · subst c
        rw [um]
        refine ⟨⟨?_, by omega⟩, fun _ => ?_, ?_, fun _ => ?_, by rw [o9 44 (by decide)]; exact a4, ⟨?_, hQ.1⟩, fun q i x hx => by rw [o9 46 (by decide)]; exact a6 (by omega) i x hx, fun q => a7 (by omega), fun q i x hx => by rw [q47]; exact hQ.2 (by omega) i x hx⟩
        · rw [q40, hk]; exact if_pos rfl
        · rw [q41, hf]; exact if_pos rfl
        · rw [q42, ha]; exact if_pos rfl
        · rw [q43, hb]; exact if_pos rfl
        · by_cases c2 : kd ≤ 2
          · rw [(hT c2).1]; exact (hT c2).2.1
          · rw [hT3 (by omega)]; exact Nat.zero_le _
      · rw [ul k (by omega)]
        have := p4 k (by omega)
        obtain ⟨x0, x1, x2, x3, x4⟩ := lo (1920 + k) (by omega)
        exact rNd_cp this x0 x1 x2 x3 x4 (fun i hi => (lo6 _ (by omega)).2) (fun i hi => (lo6 _ (by omega)).1) (fun i hi => by rw [q47])
  unfold r_leaf_60L
  by_cases k2 : kd ≤ 2
  · obtain ⟨t1, t2, t3⟩ := hT k2
    have e77 := h77 k2
    refine lfp_cnt T.length (fun i y => ∃ f8 g8, (∀ r, r ≠ 46 → f8 r = f7 r) ∧ (∀ r, r ≠ 45 → g8 r = g r) ∧ (∀ c, c < 6 * (1920 + m) → f8 46 c = f 46 c ∧ g8 45 c = g 45 c) ∧ (∀ k x, k < i → T[k]? = some x → g8 45 (6 * (1920 + m) + k) = x.1 ∧ f8 46 (6 * (1920 + m) + k) = nI x.2) ∧ y = (nI kd, nI (1920 + m), nI i, v, f8, g8)) ?_ ⟨f7, g, fun _ _ => rfl, fun _ _ => rfl, fun c _ => ⟨by rw [o7 46 (by decide) (by decide) (by decide) (by decide) (by decide)], rfl⟩, fun k x hk' => absurd hk' (Nat.not_lt_zero k), rfl⟩
    rintro P1 i _ hi ⟨f8, g8, a1, a2, a3, a4, rfl⟩ ih
    show r_leaf_60 Q _ (nI kd) (nI (1920 + m)) (nI i) v f8 g8
    unfold r_leaf_60
    rw [e77]
    refine pk_le T.length i (fun z => ?_) (fun z => pk_le 3 kd (fun z2 => absurd z2 (by omega)) (fun _ => ⟨pk_in i 20 (by omega), ?_⟩))
    · obtain rfl : i = T.length := by omega
      unfold r_leaf_120
      refine pk_lt kd 3 (fun _ => ?_) (fun z2 => absurd z2 (by omega))
      refine fin f8 g8 (fun r _ h2 => a1 r h2) a2 (fun c hc => ?_) ?_ a3 (fun _ k x hx => by rw [t1] at hx; exact a4 k x (get_lt hx) hx) (fun q => by omega)
      · rw [a1 44 (by decide), r44]; exact if_neg (by omega)
      · rw [a1 44 (by decide), r44]
        unfold mnN
        rw [hk, if_pos k2, t1]
        exact (if_pos rfl).trans e77
    · obtain ⟨x, hx⟩ := get_ex z
      obtain ⟨y1, y2⟩ := t3 i x hx
      have io : vp_in (nI (6 * (1920 + m) + i)) 11808 := pk_in (6 * (1920 + m) + i) 11808 (by omega)
      rw [pk_mul, nI_add, nI_clamp (show 6 * (1920 + m) + i < 2 ^ 31 by omega), nI_clamp (show i < 2 ^ 31 by omega), a2 50 (by decide), y1, a1 51 (by decide), o7 51 (by decide) (by decide) (by decide) (by decide) (by decide), y2]
      refine ⟨io, fun g14 e14 => ⟨pk_in i 20 (by omega), io, fun f15 e15 => ?_⟩⟩
      rintro _ rfl
      rw [nI_add]
      have r45 : g14 45 = fun c => if c = 6 * (1920 + m) + i then x.1 else g8 45 c := by rw [e14, mU_s]
      have r46 : f15 46 = fun c => if c = 6 * (1920 + m) + i then nI x.2 else f8 46 c := by rw [e15, mU_s]
      refine ih _ z ⟨f15, g14, fun r hr' => by rw [e15, mU_n hr']; exact a1 r hr', fun r hr' => by rw [e14, mU_n hr']; exact a2 r hr', fun c hc => ?_, fun k y hk' hy => ?_, rfl⟩
      · rw [r45, r46]
        show (if c = 6 * (1920 + m) + i then nI x.2 else f8 46 c) = _ ∧ (if c = 6 * (1920 + m) + i then x.1 else g8 45 c) = _
        rw [if_neg (by omega), if_neg (by omega)]; exact a3 c hc
      · rw [r45, r46]
        show (if 6 * (1920 + m) + k = 6 * (1920 + m) + i then x.1 else g8 45 (6 * (1920 + m) + k)) = y.1 ∧ (if 6 * (1920 + m) + k = 6 * (1920 + m) + i then nI x.2 else f8 46 (6 * (1920 + m) + k)) = nI y.2
        by_cases c : k = i
        · subst c
          rw [hx] at hy
          obtain rfl := Option.some.inj hy
          rw [if_pos rfl, if_pos rfl]; exact ⟨rfl, rfl⟩
        · rw [if_neg (by omega), if_neg (by omega)]; exact a4 k y (by omega) hy
  · refine fun P1 hP1 => hP1 _ ?_
    show r_leaf_60 Q _ (nI kd) (nI (1920 + m)) (nI 0) v f7 g
    have main : r_leaf_120 Q (nI kd) (nI (1920 + m)) v f7 g := by
      unfold r_leaf_120
      refine pk_lt kd 3 (fun z => absurd z (by omega)) (fun _ => ⟨pk_in 0 20 (by decide), ?_⟩)
      rw [pk_mul, nI_clamp (show 6 * (1920 + m) < 2 ^ 31 by omega), cl]
      refine ⟨pk_in (6 * (1920 + m)) 11808 (by omega), fun g12 e12 => ⟨inc, fun f13 e13 => ?_⟩⟩
      have c0 : (nI 0).toNatClampNeg = 0 := nI_clamp (by decide)
      rw [c0] at e12
      have r45 : g12 45 = fun c => if c = 6 * (1920 + m) then g 3 0 else g 45 c := by rw [e12, mU_s]
      have s44 : f13 44 = fun c => if c = 1920 + m then nI 1 else f7 44 c := by rw [e13, mU_s]
      refine fin f13 g12 (fun r h1 _ => by rw [e13, mU_n h1]) (fun r hr' => by rw [e12, mU_n hr']) (fun c hc => ?_) ?_ (fun c hc => ⟨?_, ?_⟩) (fun q => absurd q k2) (fun q => ?_)
      · rw [s44, r44]
        show (if c = 1920 + m then nI 1 else if c = 1920 + m then v 77 else f 44 c) = _
        rw [if_neg (by omega), if_neg (by omega)]
      · rw [s44]
        unfold mnN
        rw [hk, if_neg k2, if_pos hk6]
        exact if_pos rfl
      · rw [e13, mU_n (by decide), o7 46 (by decide) (by decide) (by decide) (by decide) (by decide)]
      · rw [r45]; exact if_neg (by omega)
      · rw [r45]; exact (if_pos rfl).trans (hW q)
    unfold r_leaf_60
    exact ⟨fun _ => main, fun _ => pk_le 3 kd (fun _ => main) (fun z => absurd z (by omega))⟩
end LV
