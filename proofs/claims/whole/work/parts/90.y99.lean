/-! the reference: the words of a segment -/
theorem pw_get {W : List Int64} (h : W.Pairwise (fun x y => x.toInt < y.toInt)) {a b : Nat} {x y : Int64} (hab : a < b) (hx : W[a]? = some x) (hy : W[b]? = some y) : x.toInt < y.toInt := by
  obtain ⟨h1, e1⟩ := List.getElem?_eq_some_iff.mp hx
  obtain ⟨h2, e2⟩ := List.getElem?_eq_some_iff.mp hy
  rw [← e1, ← e2]
  exact List.pairwise_iff_getElem.mp h a b h1 h2 hab
theorem pw_nd {W : List Int64} (h : W.Pairwise (fun x y => x.toInt < y.toInt)) : W.Nodup := h.imp (fun {a b} hab e => by rw [e] at hab; omega)
/-- words found: a set T of them, in a row that is sorted -/
def fdW (v : Nat → Int32) (g : Nat → Nat → Int64) (T : Int64 → Prop) : Prop := ∃ W : List Int64, v 55 = nI W.length ∧ (∀ k x, W[k]? = some x → g 35 k = x) ∧ W.Pairwise (fun x y => x.toInt < y.toInt) ∧ ∀ x, x ∈ W ↔ T x
theorem fdW_eq {v : Nat → Int32} {g : Nat → Nat → Int64} {T T' : Int64 → Prop} (h : fdW v g T) (e : ∀ x, T x ↔ T' x) : fdW v g T' := by
  obtain ⟨W, h1, h2, h3, h4⟩ := h
  exact ⟨W, h1, h2, h3, fun x => (h4 x).trans (e x)⟩
section FD
variable {v v' : Nat → Int32} {f f' : Nat → Nat → Int32} {g g' : Nat → Nat → Int64} {l : LGt} {made dn op : Nat} {sg : Nat → List Dc} {hd : Nat → Nat → Nat} {ids : List Nat} {lv : Nat → Nat → Bool} {off : Bool} {WL : List Int64} {T : Int64 → Prop}
theorem rLg_fr (h1 : v' 9 = v 9) (h2 : v' 6 = v 6) (h3 : g' 4 = g 4) (h4 : g' 5 = g 5) (h5 : g' 6 = g 6) (h : rLg v g l) : rLg v' g' l := by
  unfold rLg
  rw [h1, h2, h3, h4, h5]; exact h
theorem p_putsIns {Q : QV} {W : List Int64} {c : Int64} {k : Nat} (h55 : v 55 = nI W.length) (hg : ∀ k x, W[k]? = some x → g 35 k = x) (hN : W.length < 2200) (hk : k ≤ W.length) (h : ∀ v' g', (∀ i, i ≠ 55 → v' i = v i) → (∀ n, n ≠ 35 → g' n = g n) → v' 55 = nI (W.length + 1) → (∀ j x, (W.take k ++ c :: W.drop k)[j]? = some x → g' 35 j = x) → Q v' f g') : r_puts_47 Q c (nI k) v f g := by
  unfold r_puts_47
  rintro _ rfl
  rw [h55]
  unfold r_puts_53L
  refine lfp_cnt (W.length - k) (fun i y => ∃ g', (∀ n, n ≠ 35 → g' n = g n) ∧ (∀ j, j < W.length - i → g' 35 j = g 35 j) ∧ (∀ j, W.length - i < j → j ≤ W.length → g' 35 j = g 35 (j - 1)) ∧ y = (c, nI k, nI (W.length - i), v, f, g')) ?_ ⟨g, fun _ _ => rfl, fun _ _ => rfl, fun j h1 h2 => by omega, rfl⟩
  rintro P i _ hi ⟨g', a1, a2, a3, rfl⟩ ih
  show r_puts_53 Q _ c (nI k) (nI (W.length - i)) v f g'
  unfold r_puts_53
  refine pk_le (W.length - i) k (fun z => ⟨pk_in k 2200 (by omega), fun g2 e2 v3 e3 => ?_⟩) (fun z => ?_)
  · have ek : W.length - i = k := by omega
    rw [nI_clamp (show k < 2 ^ 31 by omega)] at e2
    rw [h55, nI_add] at e3
    have r35 : g2 35 = fun j => if j = k then c else g' 35 j := by rw [e2, mU_s]
    refine h v3 g2 (fun m hm => by rw [e3, upd_n hm]) (fun n hn => by rw [e2, mU_n hn]; exact a1 n hn) (by rw [e3]; exact upd_at) (fun j x hj => ?_)
    rw [r35]
    show (if j = k then c else g' 35 j) = x
    rcases (insA_get hk).mp hj with ⟨h1, h2⟩ | ⟨h1, h2⟩ | ⟨h1, h2⟩
    · rw [if_neg (by omega), a2 j (by omega)]; exact hg j x h2
    · rw [if_pos h1]; exact h2.symm
    · have := get_lt h2
      rw [if_neg (by omega), a3 j (by omega) (by omega)]; exact hg (j - 1) x h2
  · obtain ⟨m, hm⟩ : ∃ m, W.length - i = m + 1 := ⟨W.length - i - 1, by omega⟩
    rw [hm, pk_sub (by omega), Nat.add_sub_cancel]
    refine ⟨pk_in m 2200 (by omega), pk_in (m + 1) 2200 (by omega), fun g4 e4 => ?_⟩
    rw [nI_clamp (show m < 2 ^ 31 by omega), nI_clamp (show m + 1 < 2 ^ 31 by omega)] at e4
    rintro _ rfl
    rw [nI_m1, nM_s]
    have r35 : g4 35 = fun j => if j = m + 1 then g' 35 m else g' 35 j := by rw [e4, mU_s]
    refine ih _ (by omega) ⟨g4, fun n hn => by rw [e4, mU_n hn]; exact a1 n hn, fun j hj => ?_, fun j h1 h2 => ?_, by rw [show W.length - (i + 1) = m by omega]⟩
    · rw [r35]
      show (if j = m + 1 then g' 35 m else g' 35 j) = _
      rw [if_neg (by omega)]; exact a2 j (by omega)
    · rw [r35]
      show (if j = m + 1 then g' 35 m else g' 35 j) = _
      by_cases e : j = m + 1
      · rw [if_pos e, e, Nat.add_sub_cancel]; exact a2 m (by omega)
      · rw [if_neg e]; exact a3 j (by omega) h2
theorem p_putsT {Q : QV} {c : Int64} (hT : fdW v g T) (hWL : ∀ x, T x → x ∈ WL) (hL : WL.length ≤ 2000) (h : ∀ v' g', (∀ i, i ≠ 55 → v' i = v i) → (∀ n, n ≠ 35 → g' n = g n) → fdW v' g' (fun x => T x ∨ x = c) → Q v' f g') : r_puts Q c v f g := by
  obtain ⟨W, h1, h2, h3, h4⟩ := hT
  have hN : W.length ≤ WL.length := nd_len (pw_nd h3) (fun x hx => hWL x ((h4 x).mp hx))
  have ins : ∀ k, k ≤ W.length → (∀ j x, j < k → W[j]? = some x → x.toInt < c.toInt) → (∀ x, W[k]? = some x → c.toInt < x.toInt) → r_puts_47 Q c (nI k) v f g := by
    intro k hk lo hi
    refine p_putsIns h1 h2 (by omega) hk (fun v' g' a1 a2 a3 a4 => h v' g' a1 a2 ⟨W.take k ++ c :: W.drop k, ?_, a4, ?_, fun x => ?_⟩)
    · rw [a3, insA_len hk]
    · rw [List.pairwise_append]
      refine ⟨h3.sublist (List.take_sublist k W), ?_, fun a ha b hb => ?_⟩
      · rw [List.pairwise_cons]
        refine ⟨fun y hy => ?_, h3.sublist (List.drop_sublist k W)⟩
        obtain ⟨j, hj⟩ := List.getElem?_of_mem hy
        rw [List.getElem?_drop] at hj
        by_cases e : j = 0
        · subst e; exact hi y hj
        · obtain ⟨z, hz⟩ := get_ex (l := W) (k := k) (by have := get_lt hj; omega)
          have q1 := hi z hz
          have q2 := pw_get h3 (show k < k + j by omega) hz hj
          omega
      · obtain ⟨j, hj⟩ := List.getElem?_of_mem ha
        have jl := get_lt hj
        rw [List.length_take] at jl
        rw [List.getElem?_take, if_pos (by omega)] at hj
        have q1 := lo j a (by omega) hj
        rcases List.mem_cons.mp hb with rfl | hb
        · exact q1
        · obtain ⟨i, hi'⟩ := List.getElem?_of_mem hb
          rw [List.getElem?_drop] at hi'
          exact pw_get h3 (show j < k + i by omega) hj hi'
    · rw [List.mem_append, List.mem_cons]
      have : x ∈ W ↔ x ∈ W.take k ∨ x ∈ W.drop k := by
        rw [← List.mem_append, List.take_append_drop]
      show _ ↔ T x ∨ x = c
      rw [← h4 x, this]
      constructor
      · rintro (q | q | q)
        · exact Or.inl (Or.inl q)
        · exact Or.inr q
        · exact Or.inl (Or.inr q)
      · rintro ((q | q) | q)
        · exact Or.inl q
        · exact Or.inr (Or.inr q)
        · exact Or.inr (Or.inl q)
  unfold r_puts r_puts_2L
  refine lfp_cnt W.length (fun k y => (∀ j x, j < k → W[j]? = some x → x.toInt < c.toInt) ∧ y = (c, nI k, v, f, g)) ?_ ⟨fun j x hj => absurd hj (Nat.not_lt_zero j), rfl⟩
  rintro P k _ hk ⟨lo, rfl⟩ ih
  show r_puts_2 Q _ c (nI k) v f g
  have end27 : (∀ x, W[k]? = some x → c.toInt ≤ x.toInt) → r_puts_27 Q c (nI k) v f g := by
    intro hi
    unfold r_puts_27
    rw [h1]
    refine pk_le W.length k (fun z => ins k hk lo (fun x hx => by have := get_lt hx; omega)) (fun z => ⟨pk_in k 2200 (by omega), ?_⟩)
    obtain ⟨x, hx⟩ := get_ex z
    rw [nI_clamp (show k < 2 ^ 31 by omega), h2 k x hx]
    refine w_l (fun ne => ins k hk lo (fun y hy => ?_)) (fun e => ?_)
    · rw [hx] at hy
      obtain rfl := Option.some.inj hy
      have q := hi x hx
      have : x.toInt ≠ c.toInt := fun e => ne (Int64.toInt_inj.mp e)
      omega
    · subst e
      exact h v g (fun _ _ => rfl) (fun _ _ => rfl) ⟨W, h1, h2, h3, fun y => ⟨fun hy => Or.inl ((h4 y).mp hy), fun hy => hy.elim (fun q => (h4 y).mpr q) (fun q => by rw [q]; exact List.mem_of_getElem? hx)⟩⟩
  unfold r_puts_2
  rw [h1]
  refine pk_le W.length k (fun z => end27 (fun x hx => by have := get_lt hx; omega)) (fun z => ⟨pk_in k 2200 (by omega), ?_⟩)
  obtain ⟨x, hx⟩ := get_ex z
  rw [nI_clamp (show k < 2 ^ 31 by omega), h2 k x hx]
  refine ⟨fun q => end27 (fun y hy => ?_), fun q => ?_⟩
  · rw [hx] at hy
    obtain rfl := Option.some.inj hy
    exact Int64.le_iff_toInt_le.mp q
  · rintro _ rfl
    rw [nI_add]
    refine ih _ z ⟨fun j y hj hy => ?_, rfl⟩
    by_cases e : j = k
    · subst e
      rw [hx] at hy
      obtain rfl := Option.some.inj hy
      have : ¬ c.toInt ≤ x.toInt := fun h => q (Int64.le_iff_toInt_le.mpr h)
      omega
    · exact lo j y (by omega) hy
theorem p_finds {Q : QV} {n fl : Nat} (hl : rLg v g l) (hs : rSg l v f g made dn sg hd) (hn : n < made) (hf : fl < 2) (hWL : ∀ j p x, (x, p) ∈ tlD (sg n) fl j → x ∈ WL) (hL : WL.length ≤ 2000) (h : ∀ v' g', (∀ i, i ≠ 55 → v' i = v i) → (∀ n, n ≠ 35 → g' n = g n) → fdW v' g' (fun x => ∃ j p, j < (sg n).length ∧ (x, p) ∈ tlD (sg n) fl j) → Q v' f g') : r_finds Q (nI n) (nI fl) v f g := by
  have m201 := hs.1.2
  have dn12 := hs.2.1.2
  obtain ⟨u1, u2, u3⟩ := hs.2.2 n hn
  obtain ⟨⟨l1, l2⟩, ⟨l3, l4⟩, -⟩ := id hl
  unfold r_finds
  rintro v5 e5
  have v5o : ∀ i, i ≠ 55 → v5 i = v i := fun i hi => by rw [e5, upd_n hi]
  have v555 : v5 55 = nI 0 := by rw [e5]; exact upd_at
  unfold r_finds_7L
  refine lfp_cnt (sg n).length (fun j y => ∃ v' g', (∀ i, i ≠ 55 → v' i = v i) ∧ (∀ n, n ≠ 35 → g' n = g n) ∧ fdW v' g' (fun x => ∃ i p, i < j ∧ (x, p) ∈ tlD (sg n) fl i) ∧ y = (nI n, nI fl, nI j, v', f, g')) ?_ ⟨v5, g, v5o, fun _ _ => rfl, ⟨[], v555, fun k x hk => absurd (get_lt hk) (Nat.not_lt_zero k), List.Pairwise.nil, fun x => ⟨fun q => absurd q List.not_mem_nil, fun ⟨i, p, hi, _⟩ => absurd hi (Nat.not_lt_zero i)⟩⟩, rfl⟩
  rintro P j _ hj ⟨v', g', a1, a2, a3, rfl⟩ ih
  show r_finds_7 Q _ (nI n) (nI fl) (nI j) v' f g'
  unfold r_finds_7
  rw [nI_clamp (show n < 2 ^ 31 by omega), u1, pk_mul, nI_add, nI_clamp (show 100 * n + j < 2 ^ 31 by omega)]
  refine ⟨pk_in n 202 (by omega), pk_le (sg n).length j (fun z => ?_) (fun z => ⟨pk_in (100 * n + j) 20200 (by omega), ?_⟩)⟩
  · obtain rfl : j = (sg n).length := by omega
    exact h v' g' a1 a2 a3
  obtain ⟨d, hd'⟩ := get_ex z
  obtain ⟨w1, w2, w3⟩ := u3 j d hd'
  obtain ⟨K, k1, k2, k3, -⟩ := w3.2.2.2 fl hf
  have tl : tlD (sg n) fl j = tkG l (fun q => g 17 (40 * hd n j + (20 * fl + q))) K := by rw [tlD_at hd']; exact k3
  rw [w1]
  rintro _ rfl
  unfold r_finds_33L
  refine lfp_cnt K (fun p y => ∃ v2 g2, (∀ i, i ≠ 55 → v2 i = v i) ∧ (∀ n, n ≠ 35 → g2 n = g n) ∧ fdW v2 g2 (fun x => (∃ i p, i < j ∧ (x, p) ∈ tlD (sg n) fl i) ∨ ∃ q, q < p ∧ hsB l (g 17 (40 * hd n j + (20 * fl + q))) x = true) ∧ y = (nI n, nI fl, nI j, nI (hd n j), nI p, v2, f, g2)) ?_ ⟨v', g', a1, a2, fdW_eq a3 (fun x => ⟨Or.inl, fun q => q.elim id (fun ⟨q, hq, _⟩ => absurd hq (Nat.not_lt_zero q))⟩), rfl⟩
  rintro P2 p _ hp ⟨v2, g2, b1, b2, b3, rfl⟩ ih2
  show r_finds_33 Q _ _ (nI n) (nI fl) (nI j) (nI (hd n j)) (nI p) v2 f g2
  unfold r_finds_33
  rw [pk_mul, pk_mul, pk_mul, nI_add (2 * hd n j) fl, nI_add (40 * hd n j) (20 * fl), nI_add (40 * hd n j + 20 * fl) p, Nat.add_assoc, nI_clamp (show 2 * hd n j + fl < 2 ^ 31 by omega), k2, nI_clamp (show 40 * hd n j + (20 * fl + p) < 2 ^ 31 by omega), b2 17 (by decide)]
  refine ⟨pk_in (2 * hd n j + fl) 4848 (by omega), pk_le K p (fun z2 => ?_) (fun z2 => ⟨pk_in (40 * hd n j + (20 * fl + p)) 96960 (by omega), ?_⟩)⟩
  · obtain rfl : p = K := by omega
    rintro _ rfl
    rw [nI_add]
    refine ih _ z ⟨v2, g2, b1, b2, fdW_eq b3 (fun x => ?_), rfl⟩
    constructor
    · rintro (⟨i, q, hi, hx⟩ | ⟨q, hq, hx⟩)
      · exact ⟨i, q, by omega, hx⟩
      · exact ⟨j, q, by omega, by rw [tl]; exact hsB_mem.mpr ⟨hq, hx⟩⟩
    · rintro ⟨i, q, hi, hx⟩
      by_cases e : i = j
      · subst e
        rw [tl] at hx
        exact Or.inr ⟨q, (hsB_mem.mp hx).1, (hsB_mem.mp hx).2⟩
      · exact Or.inl ⟨i, q, by omega, hx⟩
  obtain ⟨s, es⟩ : ∃ s, s = g 17 (40 * hd n j + (20 * fl + p)) := ⟨_, rfl⟩
  rw [← es]
  intro x6 ex6
  rw [ex6]
  have nx : ∀ v3 g3, (∀ i, i ≠ 55 → v3 i = v i) → (∀ n, n ≠ 35 → g3 n = g n) → fdW v3 g3 (fun x => ((∃ i p, i < j ∧ (x, p) ∈ tlD (sg n) fl i) ∨ ∃ q, q < p ∧ hsB l (g 17 (40 * hd n j + (20 * fl + q))) x = true) ∨ hsB l s x = true) → r_finds_126 Q (fun b0 b1 b2 v f g => P (b0, b1, b2, v, f, g)) (fun b0 b1 b2 b3 b4 v f g => P2 (b0, b1, b2, b3, b4, v, f, g)) (nI n) (nI fl) (nI j) (nI (hd n j)) (nI p) v3 f g3 := by
    intro v3 g3 c1 c2 c3
    unfold r_finds_126
    rintro _ rfl
    rw [nI_add]
    refine ih2 _ z2 ⟨v3, g3, c1, c2, fdW_eq c3 (fun x => ?_), rfl⟩
    constructor
    · rintro ((q | ⟨q, hq, hx⟩) | q)
      · exact Or.inl q
      · exact Or.inr ⟨q, by omega, hx⟩
      · exact Or.inr ⟨p, by omega, by rw [← es]; exact q⟩
    · rintro (q | ⟨q, hq, hx⟩)
      · exact Or.inl (Or.inl q)
      · by_cases e : q = p
        · subst e
          rw [← es] at hx
          exact Or.inr hx
        · exact Or.inl (Or.inr ⟨q, by omega, hx⟩)
  have inWL : ∀ x, ((∃ i p, i < j ∧ (x, p) ∈ tlD (sg n) fl i) ∨ ∃ q, q < p ∧ hsB l (g 17 (40 * hd n j + (20 * fl + q))) x = true) ∨ hsB l s x = true → x ∈ WL := by
    rintro x ((⟨i, q, hi, hx⟩ | ⟨q, hq, hx⟩) | q)
    · exact hWL i q x hx
    · exact hWL j q x (by rw [tl]; exact hsB_mem.mpr ⟨by omega, hx⟩)
    · exact hWL j p x (by rw [tl]; exact hsB_mem.mpr ⟨z2, by rw [← es]; exact q⟩)
  have hl2 : rLg v2 g2 l := rLg_fr (b1 9 (by decide)) (b1 6 (by decide)) (b2 4 (by decide)) (b2 5 (by decide)) (b2 6 (by decide)) hl
  refine p_isStopL hl2 (w_bn (l.2.2.2 s) (fun e => nx v2 g2 b1 b2 (fdW_eq b3 (fun x => ⟨Or.inl, fun q => q.elim id (fun q => ?_)⟩))) (fun e => ?_))
  · unfold hsB at q
    rw [e] at q
    simp at q
  have hsx : ∀ x, hsB l s x = true ↔ (x = s ∨ ∃ k, k < l.2.2.1 ∧ l.1 k = s ∧ l.2.1 k = x) := by
    intro x
    unfold hsB
    rw [e, Bool.and_eq_true, Bool.or_eq_true, decide_eq_true_iff, anyB_ex]
    constructor
    · rintro ⟨q | ⟨k, h1, h2⟩, -⟩
      · exact Or.inl q.symm
      · rw [Bool.and_eq_true, decide_eq_true_iff, decide_eq_true_iff] at h2
        exact Or.inr ⟨k, h1, h2⟩
    · rintro (q | ⟨k, h1, h2⟩)
      · exact ⟨Or.inl q.symm, rfl⟩
      · exact ⟨Or.inr ⟨k, h1, by rw [Bool.and_eq_true, decide_eq_true_iff, decide_eq_true_iff]; exact h2⟩, rfl⟩
  refine p_putsT b3 (fun x hx => inWL x (Or.inl hx)) hL (fun v3 g3 c1 c2 c3 => ?_)
  unfold r_finds_87L
  refine lfp_cnt l.2.2.1 (fun i y => ∃ v4 g4, (∀ i, i ≠ 55 → v4 i = v i) ∧ (∀ n, n ≠ 35 → g4 n = g n) ∧ fdW v4 g4 (fun x => ((∃ i p, i < j ∧ (x, p) ∈ tlD (sg n) fl i) ∨ ∃ q, q < p ∧ hsB l (g 17 (40 * hd n j + (20 * fl + q))) x = true) ∨ (x = s ∨ ∃ k, k < i ∧ l.1 k = s ∧ l.2.1 k = x)) ∧ y = (nI n, nI fl, nI j, nI (hd n j), nI p, s, nI i, v4, f, g4)) ?_ ⟨v3, g3, fun i hi => (c1 i hi).trans (b1 i hi), fun n hn => (c2 n hn).trans (b2 n hn), fdW_eq c3 (fun x => ⟨fun q => q.elim Or.inl (fun q => Or.inr (Or.inl q)), fun q => q.elim Or.inl (fun q => q.elim Or.inr (fun ⟨k, hk, _⟩ => absurd hk (Nat.not_lt_zero k)))⟩), rfl⟩
  rintro P3 i _ hi ⟨v4, g4, d1, d2, d3, rfl⟩ ih3
  show r_finds_87 Q _ _ _ (nI n) (nI fl) (nI j) (nI (hd n j)) (nI p) s (nI i) v4 f g4
  unfold r_finds_87
  rw [d1 9 (by decide), l3]
  refine pk_le l.2.2.1 i (fun z3 => ?_) (fun z3 => ⟨pk_in i 10 (by omega), ?_⟩)
  · obtain rfl : i = l.2.2.1 := by omega
    exact nx v4 g4 d1 d2 (fdW_eq d3 (fun x => or_congr Iff.rfl (hsx x).symm))
  rw [nI_clamp (show i < 2 ^ 31 by omega), d2 5 (by decide), l1, d2 6 (by decide), l2]
  have nx3 : ∀ v6 g6, (∀ i, i ≠ 55 → v6 i = v i) → (∀ n, n ≠ 35 → g6 n = g n) → fdW v6 g6 (fun x => ((∃ i p, i < j ∧ (x, p) ∈ tlD (sg n) fl i) ∨ ∃ q, q < p ∧ hsB l (g 17 (40 * hd n j + (20 * fl + q))) x = true) ∨ (x = s ∨ ∃ k, k < i + 1 ∧ l.1 k = s ∧ l.2.1 k = x)) → r_finds_120 Q (fun b0 b1 b2 v f g => P (b0, b1, b2, v, f, g)) (fun b0 b1 b2 b3 b4 v f g => P2 (b0, b1, b2, b3, b4, v, f, g)) (fun b0 b1 b2 b3 b4 b5 b6 v f g => P3 (b0, b1, b2, b3, b4, b5, b6, v, f, g)) (nI n) (nI fl) (nI j) (nI (hd n j)) (nI p) s (nI i) v6 f g6 := by
    intro v6 g6 x1 x2 x3
    unfold r_finds_120
    rintro _ rfl
    rw [nI_add]
    exact ih3 _ z3 ⟨v6, g6, x1, x2, x3, rfl⟩
  refine w_l (fun ne => nx3 v4 g4 d1 d2 (fdW_eq d3 (fun x => or_congr Iff.rfl (or_congr Iff.rfl ?_)))) (fun eq => ⟨pk_in i 10 (by omega), ?_⟩)
  · constructor
    · rintro ⟨k, h1, h2⟩; exact ⟨k, by omega, h2⟩
    · rintro ⟨k, h1, h2, h3⟩
      have : k ≠ i := fun q => ne (by rw [← q]; exact h2)
      exact ⟨k, by omega, h2, h3⟩
  · refine p_putsT d3 (fun x hx => inWL x ?_) hL (fun v6 g6 x1 x2 x3 => nx3 v6 g6 (fun i hi => (x1 i hi).trans (d1 i hi)) (fun n hn => (x2 n hn).trans (d2 n hn)) (fdW_eq x3 (fun x => ?_)))
    · rcases hx with q | q | ⟨k, k1, k2, k3⟩
      · exact Or.inl q
      · exact Or.inr ((hsx x).mpr (Or.inl q))
      · exact Or.inr ((hsx x).mpr (Or.inr ⟨k, by omega, k2, k3⟩))
    · constructor
      · rintro ((q | q | ⟨k, k1, k2, k3⟩) | q)
        · exact Or.inl q
        · exact Or.inr (Or.inl q)
        · exact Or.inr (Or.inr ⟨k, by omega, k2, k3⟩)
        · exact Or.inr (Or.inr ⟨i, by omega, eq, q.symm⟩)
      · rintro (q | q | ⟨k, k1, k2, k3⟩)
        · exact Or.inl (Or.inl q)
        · exact Or.inl (Or.inr (Or.inl q))
        · by_cases e : k = i
          · subst e; exact Or.inr k3.symm
          · exact Or.inl (Or.inr (Or.inr ⟨k, by omega, k2, k3⟩))
end FD
