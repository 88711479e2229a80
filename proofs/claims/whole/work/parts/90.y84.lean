/-! the reference: merge -/
section MG
variable {v v' : Nat → Int32} {f f' : Nat → Nat → Int32} {g g' : Nat → Nat → Int64} {l : LGt} {B : List Dc} {made dn w : Nat} {sg : Nat → List Dc} {hd : Nat → Nat → Nat} {ids : List Nat} {lv : Nat → Nat → Bool} {cc : Option Nat} {off : Bool} {mg : Option (Vw × Nat)}
theorem src_get {k a n : Nat} (h : ((ids.drop k).take 3)[a]? = some n) : a < 3 ∧ ids[k + a]? = some n := by
  have hl := get_lt h
  rw [List.length_take] at hl
  rw [List.getElem?_take, if_pos (by omega), List.getElem?_drop] at h
  exact ⟨by omega, h⟩
theorem src_ex {k a : Nat} (ha : a < 3) (hk : k + 2 < ids.length) : ∃ n, ((ids.drop k).take 3)[a]? = some n ∧ ids[k + a]? = some n := by
  obtain ⟨n, hn⟩ := get_ex (l := ids) (k := k + a) (by omega)
  exact ⟨n, by rw [List.getElem?_take, if_pos ha, List.getElem?_drop]; exact hn, hn⟩
theorem p_merge {Q : QI} (h98 : v 98 = bI off) (hm : rMg v f sg mg) (hs : rSg l v f g made dn sg hd) (hi : rIx v f made sg ids lv) (hT : ∀ k, dueI sg ids k → (mtL sg lv ((ids.drop k).take 3)).length ≤ 100) (hX : (off = true ∨ (∀ i, ¬ dueI sg ids i) ∨ mg ≠ none ∨ 200 ≤ made) → Q (nI 0) (upd v 99 (nI 1)) f g) (h : ∀ k v' f', off = false → mg = none → made < 200 → dueI sg ids k → (∀ i, i < k → ¬ dueI sg ids i) → k + 2 < ids.length → rF [99, 49, 52, 53] [33, 34] [] v f g v' f' g → v' 99 = nI 0 → rMg v' f' sg (some (((ids.drop k).take 3, lv), 0)) → Q (nI (mtL sg lv ((ids.drop k).take 3)).length) v' f' g) : r_merge Q v f g := by
  have m201 := hs.1.2
  have i2 := hi.2.1
  have no : ∀ t : Int32, (off = true ∨ (∀ i, ¬ dueI sg ids i) ∨ mg ≠ none ∨ 200 ≤ made) → r_merge_50 Q t v f g := by
    intro t h
    unfold r_merge_50 r_merge_51
    exact goF (b1 := false) ⟨fun c => absurd rfl c, fun _ => hX h⟩
  have rest : ∀ t : Int32, (off = false → (t = -1 → ∀ i, ¬ dueI sg ids i) ∧ (¬ t = -1 → ∃ k, t = nI k ∧ dueI sg ids k ∧ (∀ i, i < k → ¬ dueI sg ids i) ∧ k + 2 < ids.length)) → r_merge_15 Q t v f g := by
    intro t ht
    unfold r_merge_15
    rw [h98, hm.1, hs.1.1]
    refine w_bn off (fun e => no t (Or.inl e)) (fun e => ⟨fun e2 => no t (Or.inr (Or.inl ((ht e).1 e2))), fun e2 => w_bn mg.isSome (fun e3 => no t (Or.inr (Or.inr (Or.inl ?_)))) (fun e3 => pk_le 200 made (fun z => no t (Or.inr (Or.inr (Or.inr z)))) (fun z => ?_))⟩)
    · intro e4; rw [e4] at e3; exact absurd e3 (by simp)
    have mgN : mg = none := by
      cases mg with
      | none => rfl
      | some m => exact absurd e3 (by simp)
    obtain ⟨k, rfl, hdue, hmin, hk2⟩ := (ht e).2 e2
    have tot := hT k hdue
    obtain ⟨src, hsrc⟩ : ∃ src, src = (ids.drop k).take 3 := ⟨_, rfl⟩
    have fin := fun v' f' => h k v' f' e mgN z hdue hmin hk2
    rw [← hsrc] at tot fin
    have sget : ∀ {a n}, src[a]? = some n → a < 3 ∧ ids[k + a]? = some n := fun h => src_get (by rw [← hsrc]; exact h)
    have slen : src.length = 3 := by rw [hsrc, List.length_take, List.length_drop]; omega
    unfold r_merge_51
    refine goF (b1 := true) ⟨fun _ => ?_, fun c => absurd c (by decide)⟩
    rintro v3 e3' v4 e4 v5 e5
    have v5o : ∀ j, j ≠ 99 → j ≠ 49 → j ≠ 52 → j ≠ 53 → v5 j = v j := fun j h1 h2 h3 h4 => by rw [e5, upd_n h4, e4, upd_n h3, e3', upd_n h2, upd_n h1]
    have v599 : v5 99 = nI 0 := by rw [e5, upd_n (by decide), e4, upd_n (by decide), e3', upd_n (by decide)]; exact upd_at
    have v549 : v5 49 = bI true := by rw [e5, upd_n (by decide), e4, upd_n (by decide), e3']; exact upd_at
    have v552 : v5 52 = nI 0 := by rw [e5, upd_n (by decide), e4]; exact upd_at
    have v553 : v5 53 = nI 0 := by rw [e5]; exact upd_at
    unfold r_merge_78L
    refine lfp_cnt 3 (fun i y => ∃ v' f', (∀ m, m ≠ 52 → v' m = v5 m) ∧ v' 52 = nI (mtL sg lv (src.take i)).length ∧ (∀ n, n ≠ 33 → n ≠ 34 → f' n = f n) ∧ (∀ a n, a < i → src[a]? = some n → f' 33 a = nI n) ∧ (∀ q y, (mtL sg lv (src.take i))[q]? = some y → f' 34 q = nI (100 * y.1 + y.2)) ∧ y = (nI k, nI i, v', f', g)) ?_ ⟨v5, f, fun _ _ => rfl, v552, fun _ _ _ => rfl, fun a n ha => absurd ha (Nat.not_lt_zero a), fun q y hq => absurd (get_lt hq) (Nat.not_lt_zero q), rfl⟩
    rintro P i _ hi3 ⟨v', f', a1, a2, a3, a4, a5, rfl⟩ ih
    show r_merge_78 Q _ (nI k) (nI i) v' f' g
    unfold r_merge_78
    rw [a2, nI_add, nI_clamp (show k + i < 2 ^ 31 by omega), nI_clamp (show i < 2 ^ 31 by omega)]
    refine pk_le 3 i (fun z3 => ?_) (fun z3 => ⟨pk_in (k + i) 202 (by omega), pk_in i 3 z3, fun f6 e6 => ?_⟩)
    · obtain rfl : i = 3 := by omega
      have tk : src.take 3 = src := List.take_of_length_le (by omega)
      rw [tk] at a2 a5 ⊢
      refine fin v' f' ⟨fun j hj => ?_, fun n hn => a3 n (fun e => hn (by rw [e]; decide)) (fun e => hn (by rw [e]; decide)), fun _ _ => rfl⟩ ((a1 99 (by decide)).trans v599) ⟨(a1 49 (by decide)).trans v549, fun s c hsc => ?_⟩
      · rw [a1 j (fun e => hj (by rw [e]; decide))]
        exact v5o j (fun e => hj (by rw [e]; decide)) (fun e => hj (by rw [e]; decide)) (fun e => hj (by rw [e]; decide)) (fun e => hj (by rw [e]; decide))
      · obtain ⟨rfl, rfl⟩ : (src, lv) = s ∧ 0 = c := by
          have := Option.some.inj hsc
          exact ⟨congrArg Prod.fst this, congrArg Prod.snd this⟩
        exact ⟨a2, (a1 53 (by decide)).trans v553, fun a n ha => a4 a n (sget ha).1 ha, a5⟩
    obtain ⟨n, hn, hn2⟩ : ∃ n, src[i]? = some n ∧ ids[k + i]? = some n := by rw [hsrc]; exact src_ex z3 hk2
    obtain ⟨t1, t2⟩ := hi.2.2.1 (k + i) n hn2
    have hnm := List.mem_of_getElem? hn2
    obtain ⟨u1, u2, -⟩ := hs.2.2 n t2
    have f24 : f' 24 = f 24 := a3 24 (by decide) (by decide)
    have f20 : f' 20 = f 20 := a3 20 (by decide) (by decide)
    have f21 : f' 21 = f 21 := a3 21 (by decide) (by decide)
    rw [f24, t1] at e6
    have r33 : f6 33 = fun a => if a = i then nI n else f' 33 a := by rw [e6, mU_s]
    have o6 : ∀ m, m ≠ 33 → f6 m = f' m := fun m hm' => by rw [e6, mU_n hm']
    have mt1 : mtL sg lv (src.take (i + 1)) = mtL sg lv (src.take i) ++ fndJ (lv n) n (sg n).length := mtL_take hn
    have mle := mtL_mono (sg := sg) (f := lv) (l := src) (i + 1)
    rw [mt1, List.length_append] at mle
    unfold r_merge_99L
    refine lfp_cnt (sg n).length (fun j y => ∃ v2 f2, (∀ m, m ≠ 52 → v2 m = v5 m) ∧ v2 52 = nI (mtL sg lv (src.take i) ++ fndJ (lv n) n j).length ∧ (∀ m, m ≠ 33 → m ≠ 34 → f2 m = f m) ∧ f2 33 = f6 33 ∧ (∀ q y, (mtL sg lv (src.take i) ++ fndJ (lv n) n j)[q]? = some y → f2 34 q = nI (100 * y.1 + y.2)) ∧ y = (nI k, nI i, nI j, v2, f2, g)) ?_ ⟨v', f6, a1, by rw [fndJ, List.append_nil]; exact a2, fun m h1 h2 => (o6 m h1).trans (a3 m h1 h2), rfl, fun q y hq => by rw [fndJ, List.append_nil] at hq; rw [o6 34 (by decide)]; exact a5 q y hq, rfl⟩
    rintro P2 j _ hj ⟨v2, f2, c1, c2, c3, c4, c5, rfl⟩ ih2
    show r_merge_99 Q _ _ (nI k) (nI i) (nI j) v2 f2 g
    have g33 : f2 33 i = nI n := by rw [c4, r33]; exact if_pos rfl
    have g20 : f2 20 = f 20 := c3 20 (by decide) (by decide)
    have g21 : f2 21 = f 21 := c3 21 (by decide) (by decide)
    unfold r_merge_99
    rw [nI_clamp (show i < 2 ^ 31 by omega), g33, nI_clamp (show n < 2 ^ 31 by omega), g20, u1]
    refine ⟨pk_in i 3 z3, pk_in n 202 (by omega), pk_le (sg n).length j (fun z4 => ?_) (fun z4 => ⟨pk_in i 3 z3, ?_⟩)⟩
    · obtain rfl : j = (sg n).length := by omega
      rintro _ rfl
      rw [nI_add]
      refine ih _ z3 ⟨v2, f2, c1, by rw [mt1]; exact c2, c3, fun a m ha hm' => ?_, by rw [mt1]; exact c5, rfl⟩
      rw [c4, r33]
      show (if a = i then nI n else f' 33 a) = nI m
      by_cases ca : a = i
      · subst ca
        rw [hn] at hm'
        rw [if_pos rfl, Option.some.inj hm']
      · rw [if_neg ca]; exact a4 a m (by omega) hm'
    rw [pk_mul, nI_add]
    rintro _ rfl
    have inc : vp_in (nI (100 * n + j)) 20200 := pk_in (100 * n + j) 20200 (by omega)
    rw [nI_clamp (show 100 * n + j < 2 ^ 31 by omega), g21, hi.2.2.2 n hnm j z4]
    have next : ∀ {v3 : Nat → Int32} {f3 : Nat → Nat → Int32}, (∀ m, m ≠ 52 → v3 m = v5 m) → v3 52 = nI (mtL sg lv (src.take i) ++ fndJ (lv n) n (j + 1)).length → (∀ m, m ≠ 33 → m ≠ 34 → f3 m = f m) → f3 33 = f6 33 → (∀ q y, (mtL sg lv (src.take i) ++ fndJ (lv n) n (j + 1))[q]? = some y → f3 34 q = nI (100 * y.1 + y.2)) → r_merge_158 Q (fun b0 b1 v f g => P (b0, b1, v, f, g)) (fun b0 b1 b2 v f g => P2 (b0, b1, b2, v, f, g)) (nI k) (nI i) (nI j) v3 f3 g := by
      intro v3 f3 x1 x2 x3 x4 x5
      unfold r_merge_158
      rintro _ rfl
      rw [nI_add]
      exact ih2 _ z4 ⟨v3, f3, x1, x2, x3, x4, x5, rfl⟩
    refine ⟨inc, w_b0 (lv n j) (fun el => next c1 ?_ c3 c4 ?_) (fun el => ?_)⟩
    · rw [fndJ, el, if_neg (by decide), List.append_nil]; exact c2
    · rw [fndJ, el, if_neg (by decide), List.append_nil]; exact c5
    have fs : fndJ (lv n) n (j + 1) = fndJ (lv n) n j ++ [(n, j)] := by rw [fndJ, if_pos el]
    have fm := fndJ_mono (f := lv n) (n := n) (j := j + 1) ((sg n).length - (j + 1))
    rw [show j + 1 + ((sg n).length - (j + 1)) = (sg n).length by omega, fs, List.length_append] at fm
    replace fm : (fndJ (lv n) n j).length + 1 ≤ (fndJ (lv n) n (sg n).length).length := fm
    have ln : (mtL sg lv (src.take i) ++ fndJ (lv n) n j).length < 100 := by rw [List.length_append]; omega
    rw [c2, nI_clamp (by omega), nI_add]
    refine ⟨pk_in (mtL sg lv (src.take i) ++ fndJ (lv n) n j).length 100 ln, fun f10 e10 v11 e11 => ?_⟩
    have r34 : f10 34 = fun q => if q = (mtL sg lv (src.take i) ++ fndJ (lv n) n j).length then nI (100 * n + j) else f2 34 q := by rw [e10, mU_s]
    refine next (fun m hm' => by rw [e11, upd_n hm']; exact c1 m hm') ?_ (fun m h1 h2 => by rw [e10, mU_n h2]; exact c3 m h1 h2) (by rw [e10, mU_n (by decide)]; exact c4) (fun q y hq => ?_)
    · rw [e11, fs, ← List.append_assoc]; exact upd_at.trans (congrArg nI (show (mtL sg lv (src.take i) ++ fndJ (lv n) n j).length + 1 = (mtL sg lv (src.take i) ++ fndJ (lv n) n j ++ [(n, j)]).length from by rw [List.length_append (bs := [(n, j)])]; rfl))
    · rw [r34]
      rw [fs, ← List.append_assoc] at hq
      show (if q = _ then nI (100 * n + j) else f2 34 q) = _
      rcases app1_get.mp hq with hq | ⟨rfl, rfl⟩
      · rw [if_neg (by have := get_lt hq; omega)]; exact c5 q y hq
      · rw [if_pos rfl]
  unfold r_merge
  rw [h98]
  refine w_b0 off (fun e => p_dueAt hs hi (fun k hk2 hdue hmin => rest _ (fun _ => ⟨fun c => ?_, fun _ => ⟨k, rfl, hdue, hmin, hk2⟩⟩)) (fun hno => rest _ (fun _ => ⟨fun _ => hno, fun c => absurd rfl c⟩))) (fun e => rest _ (fun e2 => by rw [e] at e2; exact absurd e2 (by decide)))
  have := nI_pos (n := k) (by omega)
  rw [c] at this
  exact absurd (by decide) this
end MG
