/-! the reference: snapshots -/
section SL
variable {v v' : Nat → Int32} {f f' : Nat → Nat → Int32} {g g' : Nat → Nat → Int64} {l : LGt} {made dn op : Nat} {sg : Nat → List Dc} {hd : Nat → Nat → Nat} {sl : Nat → Option (Nat × Vw)} {ids : List Nat} {lv : Nat → Nat → Bool} {cm pr : Option Vw} {mg : Option (Vw × Nat)} {off : Bool}
theorem p_slotOf {Q : QI} {x : Int32} (hk : rLk f made sg sl) (h1 : ∀ k s, k < 5 → sl k = some s → nI s.1 = x → Q (nI k) v f g) (h2 : (∀ k s, k < 5 → sl k = some s → nI s.1 ≠ x) → Q (-1) v f g) : r_slotOf Q x v f g := by
  unfold r_slotOf
  rintro _ rfl
  unfold r_slotOf_4L
  refine lfp_cnt 5 (fun k y => ∃ t : Int32, ((t = -1 ∧ ∀ i s, i < k → sl i = some s → nI s.1 ≠ x) ∨ ∃ i s, i < 5 ∧ sl i = some s ∧ nI s.1 = x ∧ t = nI i) ∧ y = (x, t, nI k, v, f, g)) ?_ ⟨-1, Or.inl ⟨rfl, fun i s hi => absurd hi (Nat.not_lt_zero i)⟩, rfl⟩
  rintro P k _ hk5 ⟨t, ht, rfl⟩ ih
  show r_slotOf_4 Q _ x t (nI k) v f g
  unfold r_slotOf_4
  refine pk_le 5 k (fun z => ?_) (fun z => ?_)
  · obtain rfl : k = 5 := by omega
    rcases ht with ⟨rfl, hno⟩ | ⟨i, s, hi, hs, hx, rfl⟩
    · exact h2 hno
    · exact h1 i s hi hs hx
  have go : ∀ t' : Int32, ((t' = -1 ∧ ∀ i s, i < k + 1 → sl i = some s → nI s.1 ≠ x) ∨ ∃ i s, i < 5 ∧ sl i = some s ∧ nI s.1 = x ∧ t' = nI i) → r_slotOf_28 Q (fun b0 b1 b2 v f g => P (b0, b1, b2, v, f, g)) x (nI k) t' v f g := by
    intro t' ht'
    unfold r_slotOf_28
    rintro _ rfl
    rw [nI_add]
    exact ih _ z ⟨t', ht', rfl⟩
  have keep : (∀ s, sl k = some s → nI s.1 ≠ x) → (t = -1 ∧ ∀ i s, i < k + 1 → sl i = some s → nI s.1 ≠ x) ∨ ∃ i s, i < 5 ∧ sl i = some s ∧ nI s.1 = x ∧ t = nI i := by
    intro hkk
    rcases ht with ⟨e, hno⟩ | ht
    · refine Or.inl ⟨e, fun i s hi hs => ?_⟩
      by_cases c : i = k
      · subst c; exact hkk s hs
      · exact hno i s (by omega) hs
    · exact Or.inr ht
  unfold r_slotOf_27
  refine ⟨fun c => go t (keep fun s hs e => ?_), fun c => ⟨pk_in k 5 z, ?_⟩⟩
  · have := nI_pos (n := s.1) (by have := ((hk k z).2 s hs).1.2; omega)
    rw [e] at this
    exact this c
  rw [nI_clamp (show k < 2 ^ 31 by omega)]
  refine w_i (fun c2 => go t (keep fun s hs e => c2 ?_)) (fun c2 => go (nI k) ?_)
  · rw [((hk k z).2 s hs).1.1]; exact e
  · cases hs : sl k with
    | none =>
      rw [(hk k z).1 hs] at c2
      rw [← c2] at c
      exact absurd (by decide) c
    | some s => exact Or.inr ⟨k, s, z, hs, by rw [← ((hk k z).2 s hs).1.1]; exact c2, rfl⟩
/-- slots may be read elsewhere -/
theorem rLk_fr (h1 : f' 29 = f 29) (h2 : f' 30 = f 30) (h3 : f' 31 = f 31) (h4 : f' 32 = f 32) (h : rLk f made sg sl) : rLk f' made sg sl := by
  unfold rLk
  rw [h1, h2, h3, h4]; exact h
theorem p_lays {Q : QV} {a : Nat} {s : Nat × Vw} (hs : rSg l v f g made dn sg hd) (hk : rLk f made sg sl) (ha : a < 5) (hsl : sl a = some s) (hT : (mtL sg s.2.2 s.2.1).length ≤ 600) (h : ∀ v' f', (∀ i, i ≠ 60 → v' i = v i) → (∀ n, n ≠ 38 → f' n = f n) → v' 60 = nI (mtL sg s.2.2 s.2.1).length → (∀ q y, (mtL sg s.2.2 s.2.1)[q]? = some y → f' 38 q = nI (hd y.1 y.2)) → Q v' f' g) : r_lays Q (nI a) v f g := by
  have m201 := hs.1.2
  obtain ⟨⟨s1, s2⟩, s3, s4, s5, s6⟩ := (hk a ha).2 s hsl
  have ac : (nI a).toNatClampNeg = a := nI_clamp (by omega)
  unfold r_lays
  rintro v5 e5
  have v5o : ∀ i, i ≠ 60 → v5 i = v i := fun i hi => by rw [e5, upd_n hi]
  have v560 : v5 60 = nI 0 := by rw [e5]; exact upd_at
  unfold r_lays_7L
  refine lfp_cnt s.2.1.length (fun i y => ∃ v' f', (∀ m, m ≠ 60 → v' m = v m) ∧ v' 60 = nI (mtL sg s.2.2 (s.2.1.take i)).length ∧ (∀ n, n ≠ 38 → f' n = f n) ∧ (∀ q y, (mtL sg s.2.2 (s.2.1.take i))[q]? = some y → f' 38 q = nI (hd y.1 y.2)) ∧ y = (nI a, nI i, v', f', g)) ?_ ⟨v5, f, v5o, v560, fun _ _ => rfl, fun q y hq => absurd (get_lt hq) (Nat.not_lt_zero q), rfl⟩
  rintro P i _ hi3 ⟨v', f', a1, a2, a3, a4, rfl⟩ ih
  show r_lays_7 Q _ (nI a) (nI i) v' f' g
  have f30 : f' 30 = f 30 := a3 30 (by decide)
  have f31 : f' 31 = f 31 := a3 31 (by decide)
  unfold r_lays_7
  rw [ac, f31, s3, pk_mul, nI_add, nI_clamp (show 202 * a + i < 2 ^ 31 by omega), f30]
  refine ⟨pk_in a 5 ha, pk_le s.2.1.length i (fun z => ?_) (fun z => ⟨pk_in (202 * a + i) 1010 (by omega), ?_⟩)⟩
  · obtain rfl : i = s.2.1.length := by omega
    rw [List.take_length] at a2 a4
    exact h v' f' a1 a3 a2 a4
  obtain ⟨n, hn⟩ := get_ex z
  obtain ⟨t1, t2⟩ := s5 i n hn
  have hnm := List.mem_of_getElem? hn
  obtain ⟨u1, u2, u3⟩ := hs.2.2 n t2
  rw [t1]
  rintro _ rfl _ rfl
  rw [pk_mul]
  have mt1 : mtL sg s.2.2 (s.2.1.take (i + 1)) = mtL sg s.2.2 (s.2.1.take i) ++ fndJ (s.2.2 n) n (sg n).length := mtL_take hn
  have mle := mtL_mono (sg := sg) (f := s.2.2) (l := s.2.1) (i + 1)
  rw [mt1, List.length_append] at mle
  unfold r_lays_36L
  refine lfp_cnt (sg n).length (fun j y => ∃ v2 f2, (∀ m, m ≠ 60 → v2 m = v m) ∧ v2 60 = nI (mtL sg s.2.2 (s.2.1.take i) ++ fndJ (s.2.2 n) n j).length ∧ (∀ m, m ≠ 38 → f2 m = f m) ∧ (∀ q y, (mtL sg s.2.2 (s.2.1.take i) ++ fndJ (s.2.2 n) n j)[q]? = some y → f2 38 q = nI (hd y.1 y.2)) ∧ y = (nI a, nI i, nI n, nI (100 * n + j), v2, f2, g)) ?_ ⟨v', f', a1, by rw [fndJ, List.append_nil]; exact a2, a3, fun q y hq => by rw [fndJ, List.append_nil] at hq; exact a4 q y hq, rfl⟩
  rintro P2 j _ hj ⟨v2, f2, c1, c2, c3, c4, rfl⟩ ih2
  show r_lays_36 Q _ _ (nI a) (nI i) (nI n) (nI (100 * n + j)) v2 f2 g
  have g20 : f2 20 = f 20 := c3 20 (by decide)
  have g32 : f2 32 = f 32 := c3 32 (by decide)
  have g19 : f2 19 = f 19 := c3 19 (by decide)
  unfold r_lays_36
  rw [nI_clamp (show n < 2 ^ 31 by omega), g20, u1, pk_mul, nI_add (100 * n) (sg n).length, pk_mul, nI_add (20200 * a) (100 * n + j), nI_clamp (show 20200 * a + (100 * n + j) < 2 ^ 31 by omega), g32, nI_clamp (show 100 * n + j < 2 ^ 31 by omega), g19]
  refine ⟨pk_in n 202 (by omega), pk_le (100 * n + (sg n).length) (100 * n + j) (fun z4 => ?_) (fun z4 => ⟨pk_in (20200 * a + (100 * n + j)) 101000 (by omega), ?_⟩)⟩
  · obtain rfl : j = (sg n).length := by omega
    rintro _ rfl
    rw [nI_add]
    exact ih _ z ⟨v2, f2, c1, by rw [mt1]; exact c2, c3, by rw [mt1]; exact c4, rfl⟩
  have jl : j < (sg n).length := by omega
  rw [s6 n hnm j jl]
  have next : ∀ {v3 : Nat → Int32} {f3 : Nat → Nat → Int32}, (∀ m, m ≠ 60 → v3 m = v m) → v3 60 = nI (mtL sg s.2.2 (s.2.1.take i) ++ fndJ (s.2.2 n) n (j + 1)).length → (∀ m, m ≠ 38 → f3 m = f m) → (∀ q y, (mtL sg s.2.2 (s.2.1.take i) ++ fndJ (s.2.2 n) n (j + 1))[q]? = some y → f3 38 q = nI (hd y.1 y.2)) → r_lays_94 Q (fun b0 b1 v f g => P (b0, b1, v, f, g)) (fun b0 b1 b2 b3 v f g => P2 (b0, b1, b2, b3, v, f, g)) (nI a) (nI i) (nI n) (nI (100 * n + j)) v3 f3 g := by
    intro v3 f3 x1 x2 x3 x5
    unfold r_lays_94
    rintro _ rfl
    rw [nI_add]
    exact ih2 _ jl ⟨v3, f3, x1, x2, x3, x5, rfl⟩
  refine w_b0 (s.2.2 n j) (fun el => next c1 ?_ c3 ?_) (fun el => ⟨pk_in (100 * n + j) 20200 (by omega), ?_⟩)
  · rw [fndJ, el, if_neg (by decide), List.append_nil]; exact c2
  · rw [fndJ, el, if_neg (by decide), List.append_nil]; exact c4
  have fs : fndJ (s.2.2 n) n (j + 1) = fndJ (s.2.2 n) n j ++ [(n, j)] := by rw [fndJ, if_pos el]
  have fm := fndJ_mono (f := s.2.2 n) (n := n) (j := j + 1) ((sg n).length - (j + 1))
  rw [show j + 1 + ((sg n).length - (j + 1)) = (sg n).length by omega, fs, List.length_append] at fm
  replace fm : (fndJ (s.2.2 n) n j).length + 1 ≤ (fndJ (s.2.2 n) n (sg n).length).length := fm
  have ln : (mtL sg s.2.2 (s.2.1.take i) ++ fndJ (s.2.2 n) n j).length < 600 := by rw [List.length_append]; omega
  obtain ⟨d, hd'⟩ := get_ex jl
  rw [c2, nI_clamp (show (mtL sg s.2.2 (s.2.1.take i) ++ fndJ (s.2.2 n) n j).length < 2 ^ 31 by omega), nI_add, (u3 j d hd').1]
  refine ⟨pk_in (mtL sg s.2.2 (s.2.1.take i) ++ fndJ (s.2.2 n) n j).length 2424 (by omega), fun f10 e10 v11 e11 => ?_⟩
  have r38 : f10 38 = fun q => if q = (mtL sg s.2.2 (s.2.1.take i) ++ fndJ (s.2.2 n) n j).length then nI (hd n j) else f2 38 q := by rw [e10, mU_s]
  refine next (fun m hm' => by rw [e11, upd_n hm']; exact c1 m hm') ?_ (fun m h2 => by rw [e10, mU_n h2]; exact c3 m h2) (fun q y hq => ?_)
  · rw [e11, fs, ← List.append_assoc]; exact upd_at.trans (congrArg nI (show (mtL sg s.2.2 (s.2.1.take i) ++ fndJ (s.2.2 n) n j).length + 1 = (mtL sg s.2.2 (s.2.1.take i) ++ fndJ (s.2.2 n) n j ++ [(n, j)]).length from by rw [List.length_append (bs := [(n, j)])]; rfl))
  · rw [r38]
    rw [fs, ← List.append_assoc] at hq
    show (if q = _ then nI (hd n j) else f2 38 q) = _
    rcases app1_get.mp hq with hq | ⟨rfl, rfl⟩
    · rw [if_neg (by have := get_lt hq; omega)]; exact c4 q y hq
    · rw [if_pos rfl]
theorem p_documents {Q : QI} {x : Int32} (hs : rSg l v f g made dn sg hd) (hk : rLk f made sg sl) (hT : ∀ k s, k < 5 → sl k = some s → (mtL sg s.2.2 s.2.1).length ≤ 600) (hX : (∀ k s, k < 5 → sl k = some s → nI s.1 ≠ x) → Q (nI 0) (upd v 99 (nI 1)) f g) (h : ∀ k s v' f', k < 5 → sl k = some s → nI s.1 = x → rF [99, 60] [38] [] v f g v' f' g → v' 99 = nI 0 → Q (nI (mtL sg s.2.2 s.2.1).length) v' f' g) : r_documents Q x v f g := by
  unfold r_documents
  refine p_slotOf hk (fun k s hk5 hs5 hx => ⟨fun c => absurd c (nI_neg (by omega)), fun _ => ?_⟩) (fun hno => ⟨fun _ => ?_, fun c => absurd rfl c⟩)
  · unfold r_documents_17
    refine goF (b1 := true) ⟨fun _ => ?_, fun c => absurd c (by decide)⟩
    refine p_lays (v := upd v 99 (nI 0)) (rSg_99 hs) hk hk5 hs5 (hT k s hk5 hs5) (fun v' f' a1 a2 a3 a4 => ?_)
    rw [a3]
    exact h k s v' f' hk5 hs5 hx ⟨fun i hi => (a1 i (fun e => hi (by rw [e]; decide))).trans (upd_n (fun e => hi (by rw [e]; decide))), fun n hn => a2 n (fun e => hn (by rw [e]; decide)), fun _ _ => rfl⟩ ((a1 99 (by decide)).trans upd_at)
  · unfold r_documents_17
    exact goF (b1 := false) ⟨fun c => absurd rfl c, fun _ => hX hno⟩
theorem p_shut {Q : QI} {x : Int32} (hs : rSg l v f g made dn sg hd) (hi : rIx v f made sg ids lv) (hc : rOv v f 35 37 25 26 made sg cm) (hp : rOv v f 40 42 27 28 made sg pr) (hk : rLk f made sg sl) (h49 : v 49 = bI mg.isSome) (h53 : mg ≠ none → v 53 = nI (mgC mg)) (hmg : mgC mg < 1000) (hX : (∀ k s, k < 5 → sl k = some s → nI s.1 ≠ x) → Q (nI 0) (upd v 99 (nI 1)) f g) (h : ∀ k s f', k < 5 → sl k = some s → nI s.1 = x → (∀ n, n ≠ 29 → f' n = f n) → rLk f' made sg (upR sl k none) → Q (nI (rfA f' sg made ids mg cm pr (upR sl k none))) (upd v 99 (nI 0)) f' g) : r_shut Q x v f g := by
  unfold r_shut
  refine p_slotOf hk (fun k s hk5 hs5 hx => ⟨fun c => absurd c (nI_neg (by omega)), fun _ => ?_⟩) (fun hno => ⟨fun _ => ?_, fun c => absurd rfl c⟩)
  · unfold r_shut_17
    refine goF (b1 := true) ⟨fun _ => ⟨pk_in k 5 hk5, fun f3 e3 => ?_⟩, fun c => absurd c (by decide)⟩
    rw [nI_clamp (show k < 2 ^ 31 by omega)] at e3
    have o3 : ∀ n, n ≠ 29 → f3 n = f n := fun n hn => by rw [e3, mU_n hn]
    have r29 : f3 29 = fun q => if q = k then -1 else f 29 q := by rw [e3, mU_s]
    have hk3 : rLk f3 made sg (upR sl k none) := by
      intro q hq
      by_cases c : q = k
      · subst c
        refine ⟨fun _ => by rw [r29]; exact if_pos rfl, fun t ht => ?_⟩
        rw [upR_s] at ht
        exact absurd ht (by simp)
      · rw [upR_n c]
        obtain ⟨b1, b2⟩ := hk q hq
        rw [r29, o3 30 (by decide), o3 31 (by decide), o3 32 (by decide)]
        refine ⟨fun e => (if_neg c).trans (b1 e), fun t ht => ?_⟩
        obtain ⟨⟨d1, d2⟩, d3⟩ := b2 t ht
        exact ⟨⟨(if_neg c).trans d1, d2⟩, d3⟩
    have o : ∀ {fl ct row lr : Nat} {o : Option Vw}, fl ≠ 99 → ct ≠ 99 → row ≠ 29 → lr ≠ 29 → rOv v f fl ct row lr made sg o → rOv (upd v 99 (nI 0)) f3 fl ct row lr made sg o := fun {fl ct row lr o} h1 h2 h3 h4 h => ⟨(upd_n h1).trans h.1, fun s hs => ⟨(upd_n h2).trans (h.2 s hs).1, by
      have := (h.2 s hs).2
      unfold rVw at this ⊢
      rw [o3 row h3, o3 lr h4]; exact this⟩⟩
    have F : rF [] [29] [] (upd v 99 (nI 0)) f g (upd v 99 (nI 0)) f3 g := ⟨fun _ _ => rfl, fun n hn => o3 n (fun e => hn (by rw [e]; decide)), fun _ _ => rfl⟩
    exact p_filesNow (v := upd v 99 (nI 0)) (rSg_fr F (by decide) (by decide) (by decide) (rSg_99 hs)) (rIx_fr rfl (o3 24 (by decide)) (o3 21 (by decide)) (rIx_99 hi)) (o (by decide) (by decide) (by decide) (by decide) hc) (o (by decide) (by decide) (by decide) (by decide) hp) hk3 ((upd_n (by decide)).trans h49) (fun q => (upd_n (by decide)).trans (h53 q)) hmg (h k s f3 hk5 hs5 hx o3 hk3)
  · unfold r_shut_17
    exact goF (b1 := false) ⟨fun c => absurd rfl c, fun _ => hX hno⟩
end SL
