/-! postings: numbers and documents are put -/
def putN (s : List Bool × List Nat) (x : Nat) : List Bool × List Nat := if s.2.length = 3 then (s.1 ++ grp (s.2 ++ [x]), []) else (s.1, s.2 ++ [x])
def putNs (s : List Bool × List Nat) (xs : List Nat) : List Bool × List Nat := xs.foldl putN s
theorem putNs_app {s : List Bool × List Nat} {xs ys : List Nat} : putNs s (xs ++ ys) = putNs (putNs s xs) ys := List.foldl_append
theorem putNs_1 {s : List Bool × List Nat} {x : Nat} : putNs s [x] = putN s x := rfl
/-- few numbers wait, all are small -/
def okN (s : List Bool × List Nat) : Prop := s.2.length ≤ 3 ∧ ∀ x, x ∈ s.2 → x < 128
theorem putN_ok {s : List Bool × List Nat} {x : Nat} (h : okN s) (hx : x < 128) : okN (putN s x) ∧ s.1.length ≤ (putN s x).1.length ∧ (putN s x).1.length + 8 * (putN s x).2.length ≤ s.1.length + 8 * s.2.length + 8 := by
  obtain ⟨h1, h2⟩ := h
  have hall : ∀ y, y ∈ s.2 ++ [x] → y < 128 := fun y hy => by
    rcases List.mem_append.mp hy with z | z
    · exact h2 y z
    · rw [List.mem_singleton.mp z]; exact hx
  unfold putN
  by_cases c : s.2.length = 3
  · rw [if_pos c]
    have hne : s.2 ++ [x] ≠ [] := fun z => by
      have := congrArg List.length z
      rw [List.length_append] at this
      exact absurd this (by show s.2.length + 1 ≠ 0; omega)
    have w7 : wid (s.2 ++ [x]) ≤ 7 := widN_le.mpr (orL_lt.mpr hall)
    have gl := grp_len hne
    have hl : (s.2 ++ [x]).length = 4 := by rw [List.length_append, c]; rfl
    rw [hl] at gl
    refine ⟨⟨Nat.zero_le _, fun y hy => absurd hy (List.not_mem_nil)⟩, ?_, ?_⟩
    · show _ ≤ (s.1 ++ _).length
      rw [List.length_append]; omega
    · show (s.1 ++ _).length + 8 * 0 ≤ _
      rw [List.length_append]; omega
  · rw [if_neg c]
    have hl : (s.2 ++ [x]).length = s.2.length + 1 := by rw [List.length_append]; rfl
    refine ⟨⟨by show (s.2 ++ [x]).length ≤ 3; omega, hall⟩, Nat.le_refl _, ?_⟩
    show s.1.length + 8 * (s.2 ++ [x]).length ≤ _
    omega
theorem putNs_ok : ∀ {xs : List Nat} {s : List Bool × List Nat}, okN s → (∀ x, x ∈ xs → x < 128) → okN (putNs s xs) ∧ s.1.length ≤ (putNs s xs).1.length ∧ (putNs s xs).1.length + 8 * (putNs s xs).2.length ≤ s.1.length + 8 * s.2.length + 8 * xs.length
  | [], s, h, _ => ⟨h, Nat.le_refl _, Nat.le_refl _⟩
  | x :: xs, s, h, hx => by
    obtain ⟨a1, a2, a3⟩ := putN_ok h (hx x (List.mem_cons_self ..))
    obtain ⟨b1, b2, b3⟩ := putNs_ok (xs := xs) a1 (fun y hy => hx y (List.mem_cons_of_mem _ hy))
    refine ⟨b1, Nat.le_trans a2 b2, ?_⟩
    rw [List.length_cons]
    show (putNs (putN s x) xs).1.length + 8 * (putNs (putN s x) xs).2.length ≤ _
    omega
/-- the gaps between the places of a mask -/
def gpL (m : Nat) : Nat → List Nat × Nat
  | 0 => ([], 0)
  | k + 1 => if m.testBit k = true then ((gpL m k).1 ++ [k - (gpL m k).2], k + 1) else gpL m k
theorem gpL_le (m : Nat) : ∀ k : Nat, (gpL m k).2 ≤ k ∧ ∀ x, x ∈ (gpL m k).1 → x < k
  | 0 => ⟨Nat.le_refl _, fun x hx => absurd hx (List.not_mem_nil)⟩
  | k + 1 => by
    obtain ⟨h1, h2⟩ := gpL_le m k
    rw [gpL]
    split
    · refine ⟨Nat.le_refl _, fun x hx => ?_⟩
      rcases List.mem_append.mp hx with z | z
      · exact Nat.lt_succ_of_lt (h2 x z)
      · rw [List.mem_singleton.mp z]; omega
    · exact ⟨by omega, fun x hx => Nat.lt_succ_of_lt (h2 x hx)⟩
theorem gpL_pre (m k : Nat) : ∀ d : Nat, ∃ r, (gpL m (k + d)).1 = (gpL m k).1 ++ r
  | 0 => ⟨[], (List.append_nil _).symm⟩
  | d + 1 => by
    obtain ⟨r, hr⟩ := gpL_pre m k d
    show ∃ r, (if m.testBit (k + d) = true then ((gpL m (k + d)).1 ++ [k + d - (gpL m (k + d)).2], k + d + 1) else gpL m (k + d)).1 = _
    split
    · exact ⟨r ++ [k + d - (gpL m (k + d)).2], by rw [← List.append_assoc, ← hr]⟩
    · exact ⟨r, hr⟩
theorem gpL_len (m : Nat) : ∀ k : Nat, (gpL m k).1.length = pcN m k
  | 0 => rfl
  | k + 1 => by
    have := gpL_len m k
    rw [gpL, pcN]
    split
    · rw [List.length_append, this]; rfl
    · rw [this]; rfl
theorem pcN_pos {m k : Nat} (h : m.testBit k = true) : ∀ {n : Nat}, k < n → 1 ≤ pcN m n
  | 0, hk => absurd hk (Nat.not_lt_zero k)
  | n + 1, hk => by
    rw [pcN]
    rcases Nat.lt_or_ge k n with z | z
    · have := pcN_pos h z; omega
    · obtain rfl : k = n := by omega
      rw [if_pos h]; omega
/-- what is put for a document -/
def docN (i lp m : Nat) : List Nat := (i - lp) :: (pcN m 20 - 1) :: (gpL m 20).1
theorem docN_128 {i lp m : Nat} (hi : i < 128) : ∀ x, x ∈ docN i lp m → x < 128 := by
  intro x hx
  have hp := pcN_le m 20
  rcases List.mem_cons.mp hx with z | z
  · omega
  · rcases List.mem_cons.mp z with y | y
    · omega
    · have := (gpL_le m 20).2 x y; omega
theorem docN_len {i lp m : Nat} : (docN i lp m).length ≤ 22 := by
  have hp := pcN_le m 20
  show (gpL m 20).1.length + 1 + 1 ≤ 22
  rw [gpL_len]; omega
section PN
variable {S T U : cS} {dp p : Nat} {l : List Bool} {w : Int64} {wt : List Nat} {dc lp : Nat}
theorem q_putNumber {Q : cS → Prop} {mc ms x : Nat} (g : pC S p w l wt dc lp) (h3 : wt.length ≤ 3) (hx : x < 128) (hl : l.length + 32 < 2 ^ 19) (hc : gB (putN (l, wt) x).1.length ≤ gB l.length + mc) (hs : sG (putN (l, wt) x).1.length ≤ sG l.length + ms) (h : ∀ T, pCv S T p → pC T p w (putN (l, wt) x).1 (putN (l, wt) x).2 dc lp → Q T) : k_X5_putNumber Q dp mc ms p (nI x) S := by
  obtain ⟨hb, g2, g3, g4, g5, g6, g7, d, d1, d2, d3, d4⟩ := id g
  obtain ⟨q1, q2, q3, b, b1, b2, b3, b4⟩ := id hb
  unfold k_X5_putNumber
  rw [g5]
  refine ⟨q1, q1, d, d1, d2, (w_nle 4 wt.length (fun _ => ?_) (fun z => absurd z (by omega)) (by rw [d3]) rfl).symm⟩
  refine ⟨q1, d, d1, q1, cX_mk d2 d3 (by decide) (show wt.length < 4 by omega) rfl, fun S6 e6 => ?_⟩
  rw [nI_clamp (by omega)] at e6
  have s6 : cSub S S6 (pCF S p) := e6 ▸ sub_SI (Or.inr (Or.inr d1))
  have i6 : ci S6 166 p = nI wt.length := hi_SI e6 g5
  rw [i6, nI_add]
  refine ⟨sub_A1 s6 q1, sub_A1 s6 q1, fun S7 e7 => ?_⟩
  have s7 : cSub S S7 (pCF S p) := sub_tr s6 (e7 ▸ sub_Si (F := pCF S p) (Or.inl rfl)) (fun _ _ z => z)
  have r7 : ∀ q, cr S7 q p = cr S q p := fun q => hr_Si e7 (hr_SI e6 rfl)
  have i7 : ∀ q, q ≠ 166 → ci S7 q p = ci S q p := fun q hq => hi_Si_q e7 hq (hi_SI e6 rfl)
  have c7 : ∀ q, cw S7 q p = cw S q p := fun q => by rw [e7, e6]; rfl
  have v7 : pCv S S7 p := ⟨s7, fun z hz => Or.inl (by unfold pCF at hz ⊢; rw [r7, r7] at hz; exact hz)⟩
  have nbd : b ≠ d := cA_ne b2 d2 (by decide)
  have Ib : cI S7 b = cI S b := hI_Si e7 (hI_SI_n e6 nbd rfl)
  have Id : cI S7 d = upR (cI S d) wt.length (nI x) := hI_Si e7 (hI_SI_e e6 rfl)
  have el : (wt ++ [x]).length = wt.length + 1 := by rw [List.length_append]; rfl
  have g' : pC S7 p w l (wt ++ [x]) dc lp := by
    refine ⟨⟨sub_A1 s7 q1, (i7 _ (by decide)).trans q2, q3, b, (r7 _).trans b1, sub_A1 s7 b2, (sub_cn s7 b2).trans b3, by rw [Ib]; exact b4⟩, (c7 _).trans g2, (i7 _ (by decide)).trans g3, (i7 _ (by decide)).trans g4, (hi_Si_s e7).trans (by rw [el]), by omega, fun y hy => ?_, d, (r7 _).trans d1, sub_A1 s7 d2, (sub_cn s7 d2).trans d3, fun k y hk => ?_⟩
    · rcases List.mem_append.mp hy with z | z
      · exact g7 y z
      · rw [List.mem_singleton.mp z]; exact hx
    · rw [Id]
      rcases app1_get.mp hk with z | ⟨rfl, rfl⟩
      · rw [upR_n (by have := get_lt z; omega)]; exact d4 k y z
      · exact upR_s
  unfold k_X5_putNumber_32
  rw [show ci S7 166 p = nI (wt.length + 1) from hi_Si_s e7]
  unfold putN at hc hs h
  simp only at hc hs h
  refine ⟨sub_A1 s7 q1, w_ne (wt.length + 1) 4 (fun z => ?_) (fun z => ?_)⟩
  · rw [if_neg (by omega)] at h
    exact ⟨⟨by omega, by omega⟩, h S7 v7 g'⟩
  · rw [if_pos (by omega)] at h hc hs
    simp only [List.length_append] at hc hs
    have w7 : wid (wt ++ [x]) ≤ 7 := pC_w7 g'
    have hne : wt ++ [x] ≠ [] := fun z => by
      have := congrArg List.length z
      rw [el] at this
      exact absurd this (by show wt.length + 1 ≠ 0; omega)
    have gl := grp_len hne
    have : wid (wt ++ [x]) * (wt ++ [x]).length ≤ 7 * 4 := Nat.mul_le_mul w7 (by omega)
    exact ⟨sub_A1 s7 q1, mc, ms, by omega, by omega, q_close g' (by omega) hc hs (fun T v t => ⟨⟨by omega, by omega⟩, h T (pCv_tr v7 v) t⟩)⟩
set_option maxHeartbeats 1000000 in
theorem q_putDocument {Q : cS → Prop} {mc ms i m k0 : Nat} (g : pC S p w l wt dc lp) (h3 : wt.length ≤ 3) (hi : i < 100) (hlp : lp ≤ i) (hm : m < 2 ^ 20) (hk0 : k0 < 20) (ht0 : m.testBit k0 = true) (hdc : dc < 1000) (hl : l.length + 400 < 2 ^ 19) (hc : gB (putNs (l, wt) (docN i lp m)).1.length ≤ gB l.length + mc) (hs : sG (putNs (l, wt) (docN i lp m)).1.length ≤ sG l.length + ms) (h : ∀ T, pCv S T p → pC T p w (putNs (l, wt) (docN i lp m)).1 (putNs (l, wt) (docN i lp m)).2 (dc + 1) (i + 1) → Q T) : k_X5_putDocument Q dp mc ms p (nI i) (nI m) S := by
  have ok0 : okN (l, wt) := ⟨h3, g.2.2.2.2.2.2.1⟩
  have hp := pcN_le m 20
  have hpos := pcN_pos ht0 hk0
  -- what is put is a beginning of all
  have bnd : ∀ xs ys, docN i lp m = xs ++ ys → okN (putNs (l, wt) xs) ∧ l.length ≤ (putNs (l, wt) xs).1.length ∧ (putNs (l, wt) xs).1.length ≤ (putNs (l, wt) (docN i lp m)).1.length ∧ (putNs (l, wt) xs).1.length + 32 < 2 ^ 19 := by
    intro xs ys e
    have h128 : ∀ x, x ∈ xs ++ ys → x < 128 := by rw [← e]; exact docN_128 (by omega)
    have hlen : (xs ++ ys).length ≤ 22 := by rw [← e]; exact docN_len
    rw [List.length_append] at hlen
    obtain ⟨a1, a2, a3⟩ := putNs_ok ok0 (xs := xs) (fun x hx => h128 x (List.mem_append_left _ hx))
    obtain ⟨b1, b2, b3⟩ := putNs_ok a1 (xs := ys) (fun x hx => h128 x (List.mem_append_right _ hx))
    rw [← putNs_app, ← e] at b2
    simp only at a2 a3
    exact ⟨a1, a2, b2, by omega⟩
  have gbs : ∀ {a b : Nat}, a ≤ b → gB a ≤ gB b ∧ sG a ≤ sG b := fun {a b} hab => by
    have := cap_mono a (b - a)
    rw [show a + (b - a) = b by omega] at this
    exact this
  have go := fun (k : Nat) (hk : k ≤ 20) => gpL_pre m k (20 - k)
  unfold k_X5_putDocument
  obtain ⟨hb, g2, g3, g4, -⟩ := id g
  rw [g4, nI_nM hlp]
  have e1 : docN i lp m = [i - lp] ++ (pcN m 20 - 1) :: (gpL m 20).1 := rfl
  have e2 : docN i lp m = [i - lp, pcN m 20 - 1] ++ (gpL m 20).1 := rfl
  obtain ⟨o1, l1, u1, z1⟩ := bnd _ _ e1
  obtain ⟨o2, l2, u2, z2⟩ := bnd _ _ e2
  have c1 := gbs u1
  have c2 := gbs u2
  have c10 := gbs l1
  have c20 := gbs l2
  have e12 : putNs (l, wt) [i - lp, pcN m 20 - 1] = putN (putNs (l, wt) [i - lp]) (pcN m 20 - 1) := rfl
  refine ⟨hb.1, hb.1, gB (putNs (l, wt) [i - lp]).1.length - gB l.length, sG (putNs (l, wt) [i - lp]).1.length - sG l.length, by omega, by omega, ?_⟩
  refine q_putNumber g h3 (by omega) (by omega) (by show gB (putNs (l, wt) [i - lp]).1.length ≤ _; omega) (by show sG (putNs (l, wt) [i - lp]).1.length ≤ _; omega) (fun T1 v1 g1 => ⟨⟨by omega, by omega⟩, q_bitCount hm ⟨g1.1.1, ?_⟩⟩)
  have g1 : pC T1 p w (putNs (l, wt) [i - lp]).1 (putNs (l, wt) [i - lp]).2 dc lp := g1
  have l12 : (putNs (l, wt) [i - lp]).1.length ≤ (putNs (l, wt) [i - lp, pcN m 20 - 1]).1.length := by
    rw [e12]; exact (putN_ok o1 (by omega)).2.1
  have c12 := gbs l12
  refine ⟨gB (putNs (l, wt) [i - lp, pcN m 20 - 1]).1.length - gB (putNs (l, wt) [i - lp]).1.length, sG (putNs (l, wt) [i - lp, pcN m 20 - 1]).1.length - sG (putNs (l, wt) [i - lp]).1.length, by omega, by omega, ?_⟩
  rw [pk_sub hpos]
  refine q_putNumber g1 o1.1 (by omega) z1 (by show gB (putNs (l, wt) [i - lp, pcN m 20 - 1]).1.length ≤ _; omega) (by show sG (putNs (l, wt) [i - lp, pcN m 20 - 1]).1.length ≤ _; omega) (fun T2 v2 g2 => ?_)
  have g2 : pC T2 p w (putNs (l, wt) [i - lp, pcN m 20 - 1]).1 (putNs (l, wt) [i - lp, pcN m 20 - 1]).2 dc lp := g2
  rintro _ rfl
  unfold k_X5_putDocument_27L
  have D : ∀ k, k ≤ 20 → ∃ r, docN i lp m = ([i - lp, pcN m 20 - 1] ++ (gpL m k).1) ++ r := fun k hk => by
    obtain ⟨r, hr⟩ := go k hk
    rw [show k + (20 - k) = 20 by omega] at hr
    exact ⟨r, by rw [e2, hr, List.append_assoc]⟩
  refine lfp_cnt 20 (fun k y => ∃ S', pCv S S' p ∧ pC S' p w (putNs (l, wt) ([i - lp, pcN m 20 - 1] ++ (gpL m k).1)).1 (putNs (l, wt) ([i - lp, pcN m 20 - 1] ++ (gpL m k).1)).2 dc lp ∧ y = (p, nI i, nI m, nM (gpL m k).2, nI k, gB (putNs (l, wt) ([i - lp, pcN m 20 - 1] ++ (gpL m k).1)).1.length - gB l.length, sG (putNs (l, wt) ([i - lp, pcN m 20 - 1] ++ (gpL m k).1)).1.length - sG l.length, S')) ?_ ⟨T2, pCv_tr v1 v2, g2, ?_⟩
  · rintro P k _ hk ⟨S', v, g', rfl⟩ ih
    show k_X5_putDocument_27 Q dp mc ms _ p (nI i) (nI m) (nM (gpL m k).2) (nI k) (gB (putNs (l, wt) ([i - lp, pcN m 20 - 1] ++ (gpL m k).1)).1.length - gB l.length) (sG (putNs (l, wt) ([i - lp, pcN m 20 - 1] ++ (gpL m k).1)).1.length - sG l.length) S'
    obtain ⟨r, hr⟩ := D k hk
    obtain ⟨oK, lK, uK, zK⟩ := bnd _ _ hr
    have cK := gbs uK
    have cK0 := gbs lK
    obtain ⟨hb', g2', g3', g4', g5', g6', g7', d', d1', d2', d3', d4'⟩ := id g'
    have nxt : ∀ (T : cS) (lst : Int32) (cd dd : Nat), k < 20 → pCv S T p → pC T p w (putNs (l, wt) ([i - lp, pcN m 20 - 1] ++ (gpL m (k + 1)).1)).1 (putNs (l, wt) ([i - lp, pcN m 20 - 1] ++ (gpL m (k + 1)).1)).2 dc lp → lst = nM (gpL m (k + 1)).2 → cd = gB (putNs (l, wt) ([i - lp, pcN m 20 - 1] ++ (gpL m (k + 1)).1)).1.length - gB l.length → dd = sG (putNs (l, wt) ([i - lp, pcN m 20 - 1] ++ (gpL m (k + 1)).1)).1.length - sG l.length → k_X5_putDocument_56 Q dp mc ms (fun b0 b1 b2 b3 b4 b5 b6 S => P (b0, b1, b2, b3, b4, b5, b6, S)) p (nI i) (nI m) lst (nI k) cd dd T := by
      rintro T _ _ _ hlt vT gT rfl rfl rfl
      unfold k_X5_putDocument_56
      rintro _ rfl
      rw [nI_add]
      exact ih _ hlt ⟨T, vT, gT, rfl⟩
    unfold k_X5_putDocument_27
    refine pk_le 20 k (fun z => ?_) (fun hlt => ?_)
    · obtain rfl : k = 20 := by omega
      refine ⟨hb'.1, fun S9 e9 => ?_⟩
      have s9 : cSub S' S9 (pCF S' p) := e9 ▸ sub_Si (Or.inl rfl)
      rw [show ci S9 163 p = nI dc from hi_Si_q e9 (by decide) g3', nI_add]
      refine ⟨sub_A1 s9 hb'.1, sub_A1 s9 hb'.1, fun S10 e10 => ⟨⟨by omega, by omega⟩, ?_⟩⟩
      have s10 : cSub S' S10 (pCF S' p) := sub_tr s9 (e10 ▸ sub_Si (F := pCF S' p) (Or.inl rfl)) (fun _ _ z => z)
      have r10 : ∀ q, cr S10 q p = cr S' q p := fun q => hr_Si e10 (hr_Si e9 rfl)
      have i10 : ∀ q, q ≠ 163 → q ≠ 164 → ci S10 q p = ci S' q p := fun q a b => hi_Si_q e10 a (hi_Si_q e9 b rfl)
      obtain ⟨q1, q2, q3, b, bb1, bb2, bb3, bb4⟩ := hb'
      refine h S10 (pCv_tr v ⟨s10, fun z hz => Or.inl (by unfold pCF at hz ⊢; rw [r10, r10] at hz; exact hz)⟩) ⟨⟨sub_A1 s10 q1, (i10 _ (by decide) (by decide)).trans q2, q3, b, (r10 _).trans bb1, sub_A1 s10 bb2, (sub_cn s10 bb2).trans bb3, by rw [hI_Si e10 (hI_Si e9 rfl)]; exact bb4⟩, (show cw S10 160 p = cw S' 160 p by rw [e10, e9]; rfl).trans g2', hi_Si_s e10, (hi_Si_q e10 (by decide) (hi_Si_s e9)).trans (nM_s i).symm, (i10 _ (by decide) (by decide)).trans g5', g6', g7', d', (r10 _).trans d1', sub_A1 s10 d2', (sub_cn s10 d2').trans d3', by rw [hI_Si e10 (hI_Si e9 rfl)]; exact d4'⟩
    · have gle := gpL_le m k
      refine w_b0 (m.testBit k) (fun c0 => ?_) (fun c1' => ?_) (nI_bit (by omega) (by omega))
      · have es : gpL m (k + 1) = gpL m k := by rw [gpL, if_neg (by rw [c0]; decide)]
        exact nxt S' _ _ _ hlt v (by rw [es]; exact g') (by rw [es]) (by rw [es]) (by rw [es])
      · have es : gpL m (k + 1) = ((gpL m k).1 ++ [k - (gpL m k).2], k + 1) := by rw [gpL, if_pos c1']
        have es2 : [i - lp, pcN m 20 - 1] ++ (gpL m (k + 1)).1 = ([i - lp, pcN m 20 - 1] ++ (gpL m k).1) ++ [k - (gpL m k).2] := by rw [es, List.append_assoc]
        have es3 : putNs (l, wt) ([i - lp, pcN m 20 - 1] ++ (gpL m (k + 1)).1) = putN (putNs (l, wt) ([i - lp, pcN m 20 - 1] ++ (gpL m k).1)) (k - (gpL m k).2) := by rw [es2, putNs_app]; rfl
        obtain ⟨r2, hr2⟩ := D (k + 1) hlt
        obtain ⟨oS, lS, uS, zS⟩ := bnd _ _ hr2
        have cS' := gbs uS
        have lKS : (putNs (l, wt) ([i - lp, pcN m 20 - 1] ++ (gpL m k).1)).1.length ≤ (putNs (l, wt) ([i - lp, pcN m 20 - 1] ++ (gpL m (k + 1)).1)).1.length := by rw [es3]; exact (putN_ok oK (by omega)).2.1
        have cKS := gbs lKS
        rw [nI_nM gle.1]
        refine ⟨hb'.1, gB (putNs (l, wt) ([i - lp, pcN m 20 - 1] ++ (gpL m (k + 1)).1)).1.length - gB (putNs (l, wt) ([i - lp, pcN m 20 - 1] ++ (gpL m k).1)).1.length, sG (putNs (l, wt) ([i - lp, pcN m 20 - 1] ++ (gpL m (k + 1)).1)).1.length - sG (putNs (l, wt) ([i - lp, pcN m 20 - 1] ++ (gpL m k).1)).1.length, by omega, by omega, ?_⟩
        refine q_putNumber g' oK.1 (by omega) zK (by rw [← es3]; omega) (by rw [← es3]; omega) (fun T v' gT => ?_)
        rw [← es3] at gT
        exact nxt T _ _ _ hlt (pCv_tr v v') gT (by rw [es, nM_s]) (by omega) (by omega)
  · show (p, nI i, nI m, (-1 : Int32), nI 0, _, _, T2) = (p, nI i, nI m, nM 0, nI 0, gB (putNs (l, wt) [i - lp, pcN m 20 - 1]).1.length - gB l.length, sG (putNs (l, wt) [i - lp, pcN m 20 - 1]).1.length - sG l.length, T2)
    rw [nM_0, show 0 + (gB (putNs (l, wt) [i - lp]).1.length - gB l.length) + (gB (putNs (l, wt) [i - lp, pcN m 20 - 1]).1.length - gB (putNs (l, wt) [i - lp]).1.length) = gB (putNs (l, wt) [i - lp, pcN m 20 - 1]).1.length - gB l.length by omega, show 0 + (sG (putNs (l, wt) [i - lp]).1.length - sG l.length) + (sG (putNs (l, wt) [i - lp, pcN m 20 - 1]).1.length - sG (putNs (l, wt) [i - lp]).1.length) = sG (putNs (l, wt) [i - lp, pcN m 20 - 1]).1.length - sG l.length by omega]
end PN
