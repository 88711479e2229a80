/-! the reference: the numbers of postings; bytes -/
theorem bit_hs {l : LGt} {st : Nat → Int64} {K p : Nat} {c : Int64} : (pmk c (tkG l st K)).testBit p = (decide (p < K) && hsB l (st p) c) := by
  rw [Bool.eq_iff_iff, pmk_tb, hsB_mem, Bool.and_eq_true, decide_eq_true_iff]
section PL
variable {v v' : Nat → Int32} {f f' : Nat → Nat → Int32} {g g' : Nat → Nat → Int64} {l : LGt} {made dn : Nat} {sg : Nat → List Dc} {hd : Nat → Nat → Nat} {ids : List Nat} {lv : Nat → Nat → Bool} {off : Bool} {WL : List Int64} {wp : Wps}
theorem p_packs {Q : QV} {n fl : Nat} {c : Int64} (hl : rLg v g l) (hs : rSg l v f g made dn sg hd) (hn : n < made) (hf : fl < 2) (hok : ∀ d, d ∈ sg n → okD d) (h : ∀ v' f', (∀ i, i ≠ 58 → v' i = v i) → (∀ m, m ≠ 36 → m ≠ 37 → f' m = f m) → pkR v' f' (encN (nmN 0 (pstOf (tlD (sg n) fl) c (sg n).length))) → Q v' f' g) : r_packs Q (nI n) (nI fl) c v f g := by
  have m201 := hs.1.2
  have dn12 := hs.2.1.2
  obtain ⟨u1, u2, u3⟩ := hs.2.2 n hn
  obtain ⟨TL, hTL⟩ : ∃ TL, TL = tlD (sg n) fl := ⟨_, rfl⟩
  have okt : ∀ i, okT (TL i) := fun i => by rw [hTL]; exact (tlD_ok hok fl i).1
  rw [← hTL] at h
  have xlen : ∀ j, j ≤ 100 → (nmN 0 (pstOf TL c j)).length ≤ 22 * j ∧ lpP 0 (pstOf TL c j) ≤ j := fun j hj => by
    have h1 := nmN_len (pstOf TL c j) 0
    obtain ⟨-, h2, h3⟩ := pstOf_ok (c := c) okt hj
    omega
  unfold r_packs
  rintro _ rfl
  unfold r_packs_9L
  refine lfp_cnt (sg n).length (fun j y => ∃ f', (∀ m, m ≠ 36 → f' m = f m) ∧ plR f' (nmN 0 (pstOf TL c j)) ∧ y = (nI n, nI fl, c, nI (nmN 0 (pstOf TL c j)).length, nM (lpP 0 (pstOf TL c j)), nI j, v, f', g)) ?_ ⟨f, fun _ _ => rfl, fun k x hk => absurd (get_lt hk) (Nat.not_lt_zero k), rfl⟩
  rintro P j _ hj ⟨f', a1, a2, rfl⟩ ih
  obtain ⟨x1, x2⟩ := xlen j (by omega)
  show r_packs_9 Q _ (nI n) (nI fl) c (nI (nmN 0 (pstOf TL c j)).length) (nM (lpP 0 (pstOf TL c j))) (nI j) v f' g
  unfold r_packs_9
  rw [nI_clamp (show n < 2 ^ 31 by omega), a1 20 (by decide), u1, pk_mul, nI_add, nI_clamp (show 100 * n + j < 2 ^ 31 by omega), a1 19 (by decide)]
  refine ⟨pk_in n 202 (by omega), pk_le (sg n).length j (fun z => ?_) (fun z => ⟨pk_in (100 * n + j) 20200 (by omega), ?_⟩)⟩
  · obtain rfl : j = (sg n).length := by omega
    rintro v2 e2
    have hok0 := (pstOf_ok (c := c) okt (show (sg n).length ≤ 100 by omega)).1
    have e1 := okP_N hok0
    have e3 := (eLen_le (x := (c, pstOf TL c (sg n).length)) hok0).1
    have e4 := (pstOf_ok (c := c) okt (show (sg n).length ≤ 100 by omega)).2.2
    have e5 : (encN (nmN 0 (pstOf TL c (sg n).length))).length ≤ 19200 := by
      have h1 : (encN (nmN 0 (pstOf TL c (sg n).length))).length ≤ phiL (c, pstOf TL c (sg n).length) + 4 := e3
      have h2 : phiL (c, pstOf TL c (sg n).length) ≤ 8 * (22 * (pstOf TL c (sg n).length).length) := e1.2
      omega
    refine p_packs164 (v := v2) ⟨by rw [e2]; exact upd_at, fun k hk => by
      replace hk : k < (0 + 7) / 8 := hk
      omega⟩ a2 (okP_128 hok0) (by omega) e5 (fun v' f2 b1 b2 b3 => h v' f2 (fun i hi => (b1 i hi).trans (by rw [e2, upd_n hi])) (fun m h1 h2 => (b2 m h2).trans (a1 m h1)) b3)
  obtain ⟨d, hd'⟩ := get_ex z
  obtain ⟨w1, w2, w3⟩ := u3 j d hd'
  obtain ⟨K, k1, k2, k3, -⟩ := w3.2.2.2 fl hf
  have tl : TL j = tkG l (fun q => g 17 (40 * hd n j + (20 * fl + q))) K := by rw [hTL, tlD_at hd']; exact k3
  obtain ⟨m, hm⟩ : ∃ m, m = pmk c (TL j) := ⟨_, rfl⟩
  have mb : ∀ p, m.testBit p = (decide (p < K) && hsB l (g 17 (40 * hd n j + (20 * fl + p))) c) := fun p => by rw [hm, tl]; exact bit_hs
  obtain ⟨xs, hxs⟩ : ∃ xs, xs = nmN 0 (pstOf TL c j) := ⟨_, rfl⟩
  obtain ⟨lp, hlp⟩ : ∃ lp, lp = lpP 0 (pstOf TL c j) := ⟨_, rfl⟩
  have ps : pstOf TL c (j + 1) = pstOf TL c j ++ (if m = 0 then [] else [(j, m)]) := by rw [pstOf, ← hm]
  rw [← hxs] at a2 x1
  rw [← hlp] at x2
  rw [w1, ← hxs, ← hlp]
  rintro _ rfl _ rfl _ rfl
  rw [nI_add]
  have pcle := fun p => pcN_le m p
  unfold r_packs_49L
  refine lfp_cnt K (fun p y => ∃ f2, (∀ m, m ≠ 36 → f2 m = f m) ∧ (pcN m p = 0 → plR f2 xs ∧ y = (nI n, nI fl, c, nI xs.length, nM lp, nI j, nI (hd n j), nI 0, nM 0, nI (xs.length + 1), nI p, v, f2, g)) ∧ (0 < pcN m p → ((∀ k x, xs[k]? = some x → f2 36 k = nI x) ∧ f2 36 xs.length = nI (j - lp) ∧ ∀ k x, (gpL m p).1[k]? = some x → f2 36 (xs.length + 2 + k) = nI x) ∧ y = (nI n, nI fl, c, nI (xs.length + 2 + pcN m p), nI j, nI j, nI (hd n j), nI (pcN m p), nM (gpL m p).2, nI (xs.length + 1), nI p, v, f2, g))) ?_ ⟨f', a1, fun _ => ⟨a2, rfl⟩, fun q => absurd q (Nat.lt_irrefl 0)⟩
  rintro P2 p y2 hp ⟨f2, b1, b2, b3⟩ ih2
  have gle := gpL_le m p
  have glen := gpL_len m p
  have p20 := pcle p
  -- one form for both
  have stt : ∃ nn aa : Int32, y2 = (nI n, nI fl, c, nn, aa, nI j, nI (hd n j), nI (pcN m p), nM (gpL m p).2, nI (xs.length + 1), nI p, v, f2, g) ∧ (pcN m p = 0 → nn = nI xs.length ∧ aa = nM lp) ∧ (0 < pcN m p → nn = nI (xs.length + 2 + pcN m p) ∧ aa = nI j) := by
    by_cases q : pcN m p = 0
    · have gp0 : (gpL m p).2 = 0 := by
        have : ∀ k, k ≤ p → pcN m k = 0 → (gpL m k).2 = 0 := by
          intro k
          induction k with
          | zero => intro _ _; rfl
          | succ k ihk =>
            intro hk h0
            rw [pcN] at h0
            have hb : ¬ m.testBit k = true := fun t => by rw [if_pos t] at h0; omega
            rw [gpL, if_neg hb]
            exact ihk (by omega) (by omega)
        exact this p (Nat.le_refl p) q
      refine ⟨nI xs.length, nM lp, ?_, fun _ => ⟨rfl, rfl⟩, fun c => by omega⟩
      rw [(b2 q).2, q, gp0]
    · exact ⟨nI (xs.length + 2 + pcN m p), nI j, (b3 (by omega)).2, fun c => absurd c q, fun _ => ⟨rfl, rfl⟩⟩
  obtain ⟨nn, aa, rfl, s0, s1⟩ := stt
  show r_packs_49 Q _ _ (nI n) (nI fl) c nn aa (nI j) (nI (hd n j)) (nI (pcN m p)) (nM (gpL m p).2) (nI (xs.length + 1)) (nI p) v f2 g
  unfold r_packs_49
  rw [pk_mul, nI_add, nI_clamp (show 2 * hd n j + fl < 2 ^ 31 by omega), b1 18 (by decide), k2]
  refine ⟨pk_in (2 * hd n j + fl) 4848 (by omega), pk_le K p (fun z2 => ?_) (fun z2 => ?_)⟩
  · obtain rfl : p = K := by omega
    have mno : ∀ i, p ≤ i → i < p + (20 - p) → m.testBit i = false := fun i h1 h2 => by rw [mb i, decide_eq_false (by omega)]; rfl
    have g20 : gpL m 20 = gpL m p := by
      have := gpL_none mno
      rwa [show p + (20 - p) = 20 by omega] at this
    have pc20 : pcN m 20 = pcN m p := by rw [← gpL_len m 20, g20, gpL_len]
    refine pk_le (pcN m p) 0 (fun z3 => ?_) (fun z3 => ?_)
    · have q0 : pcN m p = 0 := by omega
      obtain ⟨rfl, rfl⟩ := s0 q0
      have m0 : m = 0 := by
        rw [hm, pmk_0]
        intro q hq
        have tb : m.testBit q = true := by rw [hm]; exact (pmk_tb c q (TL j)).mpr hq
        have := pcN_pos tb (n := 20) (by
          have := mb q
          rw [tb] at this
          have h3 := (Bool.and_eq_true _ _ ▸ this.symm : (decide (q < p) = true ∧ _)).1
          have := of_decide_eq_true h3
          omega)
        omega
      unfold r_packs_150
      rintro _ rfl
      rw [nI_add]
      refine ih _ z ⟨f2, b1, ?_, ?_⟩
      · rw [ps, if_pos m0, List.append_nil, ← hxs]; exact (b2 q0).1
      · rw [ps, if_pos m0, List.append_nil, ← hxs, ← hlp]
    · obtain ⟨⟨c1, c2, c3⟩, -⟩ := b3 z3
      obtain ⟨rfl, rfl⟩ := s1 z3
      have m0 : ¬ m = 0 := fun e => by
        rw [e] at z3
        have : pcN 0 p = 0 := by
          have : ∀ k, pcN 0 k = 0 := fun k => by
            induction k with
            | zero => rfl
            | succ k ihk => rw [pcN, ihk, Nat.zero_testBit]; rfl
          exact this p
        omega
      refine ⟨pk_in (xs.length + 1) 2300 (by omega), fun f13 e13 => ?_⟩
      rw [nI_clamp (show xs.length + 1 < 2 ^ 31 by omega), pk_sub (by omega)] at e13
      have r36 : f13 36 = fun k => if k = xs.length + 1 then nI (pcN m p - 1) else f2 36 k := by rw [e13, mU_s]
      have nm : nmN 0 (pstOf TL c (j + 1)) = xs ++ docN j lp m := by rw [ps, if_neg m0, nmN_snoc, ← hxs, ← hlp]
      have lpe : lpP 0 (pstOf TL c (j + 1)) = j + 1 := by rw [ps, if_neg m0, lpP_snoc]
      have dl : docN j lp m = (j - lp) :: (pcN m p - 1) :: (gpL m p).1 := by unfold docN; rw [pc20, g20]
      unfold r_packs_150
      rintro _ rfl
      rw [nI_add]
      refine ih _ z ⟨f13, fun q hq => by rw [e13, mU_n hq]; exact b1 q hq, ?_, ?_⟩
      · rw [nm, dl]
        intro k x hk
        rw [r36]
        show (if k = xs.length + 1 then nI (pcN m p - 1) else f2 36 k) = nI x
        rcases Nat.lt_or_ge k xs.length with q | q
        · rw [List.getElem?_append_left q] at hk
          rw [if_neg (by omega)]; exact c1 k x hk
        · rw [List.getElem?_append_right q] at hk
          obtain ⟨i, rfl⟩ : ∃ i, k = xs.length + i := ⟨k - xs.length, by omega⟩
          rw [Nat.add_sub_cancel_left] at hk
          match i, hk with
          | 0, hk =>
            have : j - lp = x := Option.some.inj hk
            rw [if_neg (by omega), Nat.add_zero, c2, this]
          | 1, hk =>
            have : pcN m p - 1 = x := Option.some.inj hk
            rw [if_pos rfl, this]
          | i + 2, hk =>
            rw [if_neg (by omega), show xs.length + (i + 2) = xs.length + 2 + i by omega]
            exact c3 i x hk
      · rw [nm, lpe, nM_s, dl, List.length_append]
        show (nI n, nI fl, c, nI (xs.length + 2 + pcN m p), nI j, nI (j + 1), v, f13, g) = (nI n, nI fl, c, nI (xs.length + ((gpL m p).1.length + 1 + 1)), nI j, nI (j + 1), v, f13, g)
        rw [glen, show xs.length + (pcN m p + 1 + 1) = xs.length + 2 + pcN m p by omega]
  · refine p_hasAt (s := g 17 (40 * hd n j + (20 * fl + p))) hl (by omega) hf (by omega) rfl ?_
    have mbp := mb p
    rw [decide_eq_true z2, Bool.true_and] at mbp
    rw [← mbp]
    have pcs : pcN m (p + 1) = pcN m p + (if m.testBit p = true then 1 else 0) := rfl
    refine w_b0 (m.testBit p) (fun e => ?_) (fun e => ?_)
    · replace pcs : pcN m (p + 1) = pcN m p := by rw [pcs, e]; rfl
      have gs : gpL m (p + 1) = gpL m p := by rw [gpL, e]; rfl
      unfold r_packs_128
      rintro _ rfl
      rw [nI_add]
      refine ih2 _ z2 ⟨f2, b1, fun q => ?_, fun q => ?_⟩
      · rw [pcs] at q
        obtain ⟨r1, r2⟩ := s0 q
        refine ⟨(b2 q).1, ?_⟩
        have e2 := (b2 q).2
        have h4 : nM (gpL m p).2 = nM 0 := by injection e2 with _ e2; injection e2 with _ e2; injection e2 with _ e2; injection e2 with _ e2; injection e2 with _ e2; injection e2 with _ e2; injection e2 with _ e2; injection e2 with _ e2; injection e2 with e2 _
        rw [r1, r2, q, h4]
      · rw [pcs] at q
        obtain ⟨r1, r2⟩ := s1 q
        rw [pcs, gs, r1, r2]
        exact ⟨(b3 q).1, rfl⟩
    · rw [e, if_pos rfl] at pcs
      have gs : gpL m (p + 1) = ((gpL m p).1 ++ [p - (gpL m p).2], p + 1) := by rw [gpL, if_pos e]
      have put : ∀ f3, (∀ q, q ≠ 36 → f3 q = f q) → ((∀ k x, xs[k]? = some x → f3 36 k = nI x) ∧ f3 36 xs.length = nI (j - lp) ∧ ∀ k x, (gpL m p).1[k]? = some x → f3 36 (xs.length + 2 + k) = nI x) → r_packs_104 Q (fun b0 b1 b2 b3 b4 b5 v f g => P (b0, b1, b2, b3, b4, b5, v, f, g)) (fun b0 b1 b2 b3 b4 b5 b6 b7 b8 b9 b10 v f g => P2 (b0, b1, b2, b3, b4, b5, b6, b7, b8, b9, b10, v, f, g)) (nI n) (nI fl) c (nI (xs.length + 2 + pcN m p)) (nI j) (nI j) (nI (hd n j)) (nI (pcN m p)) (nM (gpL m p).2) (nI (xs.length + 1)) (nI p) v f3 g := by
        rintro f3 d1 ⟨d2, d3, d4⟩
        unfold r_packs_104 r_packs_128
        rw [nI_nM gle.1]
        refine ⟨pk_in (xs.length + 2 + pcN m p) 2300 (by omega), fun f16 e16 => ?_⟩
        rw [nI_clamp (show xs.length + 2 + pcN m p < 2 ^ 31 by omega)] at e16
        rintro _ rfl _ rfl _ rfl
        rw [nI_add, nI_add, nI_add]
        have r36 : f16 36 = fun k => if k = xs.length + 2 + pcN m p then nI (p - (gpL m p).2) else f3 36 k := by rw [e16, mU_s]
        refine ih2 _ z2 ⟨f16, fun q hq => by rw [e16, mU_n hq]; exact d1 q hq, fun q => by omega, fun _ => ⟨⟨fun k x hk => ?_, ?_, fun k x hk => ?_⟩, ?_⟩⟩
        · have := get_lt hk
          rw [r36]
          exact (if_neg (show ¬ k = xs.length + 2 + pcN m p by omega)).trans (d2 k x hk)
        · rw [r36]
          exact (if_neg (show ¬ xs.length = xs.length + 2 + pcN m p by omega)).trans d3
        · rw [gs] at hk
          rw [r36]
          show (if xs.length + 2 + k = xs.length + 2 + pcN m p then nI (p - (gpL m p).2) else f3 36 (xs.length + 2 + k)) = nI x
          rcases app1_get.mp hk with hk | ⟨h1, h2⟩
          · have := get_lt hk
            rw [if_neg (by omega)]; exact d4 k x hk
          · rw [if_pos (by omega), h2]
        · rw [pcs, gs]
          show _ = (nI n, nI fl, c, nI (xs.length + 2 + (pcN m p + 1)), nI j, nI j, nI (hd n j), nI (pcN m p + 1), nM (p + 1), nI (xs.length + 1), nI (p + 1), v, f16, g)
          rw [nM_s, ← Nat.add_assoc]
      refine w_nz (pcN m p) (fun q => ?_) (fun q => ?_)
      · obtain ⟨rfl, rfl⟩ := s1 q
        exact put f2 b1 (b3 q).1
      · obtain ⟨rfl, rfl⟩ := s0 q
        refine ⟨pk_in xs.length 2300 (by omega), fun f19 e19 => ?_⟩
        rw [nI_clamp (show xs.length < 2 ^ 31 by omega), nI_nM x2] at e19
        rintro _ rfl
        rw [nI_add]
        have r36 : f19 36 = fun k => if k = xs.length then nI (j - lp) else f2 36 k := by rw [e19, mU_s]
        have := put f19 (fun q hq => by rw [e19, mU_n hq]; exact b1 q hq) ⟨fun k x hk => by
          have := get_lt hk
          rw [r36]
          exact (if_neg (show ¬ k = xs.length by omega)).trans ((b2 q).1 k x hk), by rw [r36]; exact if_pos rfl, fun k x hk => by
          have := get_lt hk
          omega⟩
        rw [q] at this ⊢
        exact this
theorem p_bytes {Q : QI} {x y z : Int32} (h98 : v 98 = bI off) (hl : rLg v g l) (hs : rSg l v f g made dn sg hd) (hi : rIx v f made sg ids lv) (hwp : wpOk sg made wp) (hok : ∀ n, n < made → ∀ d, d ∈ sg n → okD d) (hW : tkIn sg made WL) (hX : noWd sg ids wp off x y z → ∀ v' g', rF [99, 55] [] [35] v f g v' f g' → v' 99 = nI 1 → Q (nI 0) v' f g') (h : ∀ k n fl j q v' f' g', off = false → ids[k]? = some n → n < made → x = nI k → fl < 2 → y = nI fl → (wp n fl)[j]? = some q → z = nI j → rF [99, 55, 58] [36, 37] [35] v f g v' f' g' → v' 99 = nI 0 → Q (nI (((encN (nmN 0 q.2)).length + 7) / 8)) v' f' g') : r_bytes Q x y z v f g := by
  have i2 := hi.2.1
  have fr : ∀ {v' g'} (t : Int32), rF [55] [] [35] v f g v' f g' → rF [99, 55] [] [35] v f g (upd v' 99 t) f g' := fun t hF => ⟨fun i hi => (upd_n (fun e => hi (by rw [e]; decide))).trans (hF.1 i (fun q => hi (by rw [List.mem_singleton.mp q]; decide))), fun _ _ => rfl, hF.2.2⟩
  unfold r_bytes
  refine p_hasWord h98 hl hs hi hwp hW (fun q v' g' hF => goF (b1 := false) ⟨fun c => absurd rfl c, fun _ => hX q _ g' (fr _ hF) upd_at⟩) (fun k n fl j q v' g' e hn t2 hx hf hy hq hz hF b1 b2 => goF (b1 := true) ⟨fun _ => ?_, fun c => absurd c (by decide)⟩)
  have F1 := fr (nI 0) hF
  have len := wp_len hwp hW t2 hf
  have jl := get_lt hq
  have kl := get_lt hn
  rw [hx, hy, hz, nI_clamp (show k < 2 ^ 31 by omega), (hi.2.2.1 k n hn).1, nI_clamp (show j < 2 ^ 31 by omega), b2 j q hq]
  refine ⟨pk_in k 202 (by omega), pk_in j 2200 (by omega), ?_⟩
  refine p_packs (v := upd v' 99 (nI 0)) (rLg_fr (F1.1 9 (by decide)) (F1.1 6 (by decide)) (F1.2.2 4 (by decide)) (F1.2.2 5 (by decide)) (F1.2.2 6 (by decide)) hl) (rSg_fr F1 (by decide) (by decide) (by decide) hs) t2 hf (hok n t2) (fun v2 f2 a1 a2 a3 => ?_)
  have hwq := ((wOk_mem (hwp n fl t2 hf) q).mp (List.mem_of_getElem? hq)).1
  rw [← hwq] at a3
  have el : (encN (nmN 0 q.2)).length < 2 ^ 30 := by
    have hok0 := (pstOf_ok (c := q.1) (fun i => (tlD_ok (hok n t2) fl i).1) (show (sg n).length ≤ 100 from (hs.2.2 n t2).2.1))
    rw [← hwq] at hok0
    have e1 := okP_N hok0.1
    have e3 : (encN (nmN 0 q.2)).length ≤ phiL (q.1, q.2) + 4 := (eLen_le (x := (q.1, q.2)) hok0.1).1
    have h2 : phiL (q.1, q.2) ≤ 8 * (22 * q.2.length) := e1.2
    have := hok0.2.2
    have := (hs.2.2 n t2).2.1
    omega
  rw [a3.1, nI_add, pk_div (by omega) (by decide) (by decide)]
  exact h k n fl j q v2 f2 g' e hn t2 hx hf hy hq hz ⟨fun i hi => (a1 i (fun e => hi (by rw [e]; decide))).trans (F1.1 i (fun w => hi (by revert w; simp only [List.mem_cons, List.not_mem_nil, or_false]; omega))), fun m hm => a2 m (fun e => hm (by rw [e]; decide)) (fun e => hm (by rw [e]; decide)), F1.2.2⟩ ((a1 99 (by decide)).trans upd_at)
theorem p_byteAt {Q : QI} {x y z t : Int32} (h98 : v 98 = bI off) (hl : rLg v g l) (hs : rSg l v f g made dn sg hd) (hi : rIx v f made sg ids lv) (hwp : wpOk sg made wp) (hok : ∀ n, n < made → ∀ d, d ∈ sg n → okD d) (hW : tkIn sg made WL) (hX : (noWd sg ids wp off x y z ∨ ∃ k n fl j q, off = false ∧ ids[k]? = some n ∧ x = nI k ∧ fl < 2 ∧ y = nI fl ∧ (wp n fl)[j]? = some q ∧ z = nI j ∧ ∀ i, i < ((encN (nmN 0 q.2)).length + 7) / 8 → t ≠ nI i) → ∀ v' f' g', rF [99, 55, 58] [36, 37] [35] v f g v' f' g' → v' 99 = nI 1 → Q (nI 0) v' f' g') (h : ∀ k n fl j q i v' f' g', off = false → ids[k]? = some n → n < made → x = nI k → fl < 2 → y = nI fl → (wp n fl)[j]? = some q → z = nI j → i < ((encN (nmN 0 q.2)).length + 7) / 8 → t = nI i → rF [99, 55, 58] [36, 37] [35] v f g v' f' g' → v' 99 = nI 0 → Q (sB (byV (encN (nmN 0 q.2)) i)) v' f' g') : r_byteAt Q x y z t v f g := by
  have i2 := hi.2.1
  have no : ∀ {v' f' g'}, rF [55, 58] [36, 37] [35] v f g v' f' g' → (noWd sg ids wp off x y z ∨ ∃ k n fl j q, off = false ∧ ids[k]? = some n ∧ x = nI k ∧ fl < 2 ∧ y = nI fl ∧ (wp n fl)[j]? = some q ∧ z = nI j ∧ ∀ i, i < ((encN (nmN 0 q.2)).length + 7) / 8 → t ≠ nI i) → r_byteAt_62 Q t v' f' g' := fun {v' f' g'} hF q => by
    unfold r_byteAt_62 r_byteAt_63
    refine goF (b1 := false) ⟨fun c => absurd rfl c, fun _ => hX q _ f' g' ⟨fun i hi => ?_, hF.2.1, hF.2.2⟩ upd_at⟩
    exact (upd_n (fun e => hi (by rw [e]; decide))).trans (hF.1 i (fun q => hi (List.mem_cons_of_mem _ q)))
  unfold r_byteAt
  refine p_hasWord h98 hl hs hi hwp hW (fun q v' g' hF => ⟨fun _ => ?_, fun c => absurd rfl c⟩) (fun k n fl j q v' g' e hn t2 hx hf hy hq hz hF b1 b2 => ⟨fun c => absurd c (by decide), fun _ => ?_⟩)
  · unfold r_byteAt_31
    exact ⟨fun _ => no (rF_wk hF (by decide) (by decide) (by decide)) (Or.inl q), fun c => absurd rfl c⟩
  have len := wp_len hwp hW t2 hf
  have jl := get_lt hq
  have kl := get_lt hn
  rw [hx, hy, hz, nI_clamp (show k < 2 ^ 31 by omega), (hi.2.2.1 k n hn).1, nI_clamp (show j < 2 ^ 31 by omega), b2 j q hq]
  refine ⟨pk_in k 202 (by omega), pk_in j 2200 (by omega), ?_⟩
  refine p_packs (rLg_fr (hF.1 9 (by decide)) (hF.1 6 (by decide)) (hF.2.2 4 (by decide)) (hF.2.2 5 (by decide)) (hF.2.2 6 (by decide)) hl) (rSg_fr hF (by decide) (by decide) (by decide) hs) t2 hf (hok n t2) (fun v2 f2 a1 a2 a3 => ?_)
  have hwq := ((wOk_mem (hwp n fl t2 hf) q).mp (List.mem_of_getElem? hq)).1
  rw [← hwq] at a3
  have el : (encN (nmN 0 q.2)).length < 19200 := by
    have hok0 := (pstOf_ok (c := q.1) (fun i => (tlD_ok (hok n t2) fl i).1) (show (sg n).length ≤ 100 from (hs.2.2 n t2).2.1))
    rw [← hwq] at hok0
    have e1 := okP_N hok0.1
    have e3 : (encN (nmN 0 q.2)).length ≤ phiL (q.1, q.2) + 4 := (eLen_le (x := (q.1, q.2)) hok0.1).1
    have h2 : phiL (q.1, q.2) ≤ 8 * (22 * q.2.length) := e1.2
    have := hok0.2.2
    have := (hs.2.2 n t2).2.1
    omega
  have F2 : rF [55, 58] [36, 37] [35] v f g v2 f2 g' := ⟨fun i hi => (a1 i (fun e => hi (by rw [e]; decide))).trans (hF.1 i (fun w => hi (by rw [List.mem_singleton.mp w]; decide))), fun m hm => a2 m (fun e => hm (by rw [e]; decide)) (fun e => hm (by rw [e]; decide)), hF.2.2⟩
  unfold r_byteAt_31
  rw [a3.1, nI_add, pk_div (by omega) (by decide) (by decide)]
  refine ⟨fun c => absurd c (by decide), fun _ => p_inL (by omega) (fun hno => ⟨fun _ => no F2 (Or.inr ⟨k, n, fl, j, q, e, hn, hx, hf, hy, hq, hz, hno⟩), fun c => absurd rfl c⟩) (fun i hi' ht => ⟨fun c => absurd c (by decide), fun _ => ?_⟩)⟩
  unfold r_byteAt_63
  refine goF (b1 := true) ⟨fun _ => ?_, fun c => absurd c (by decide)⟩
  rw [ht, nI_clamp (show i < 2 ^ 31 by omega), a3.2 i hi']
  refine ⟨pk_in i 2400 (by omega), h k n fl j q i _ f2 g' e hn t2 hx hf hy hq hz hi' ht ⟨fun a ha => ?_, F2.2.1, F2.2.2⟩ upd_at⟩
  exact (upd_n (fun e => ha (by rw [e]; decide))).trans (F2.1 a (fun q => ha (List.mem_cons_of_mem _ q)))
end PL
