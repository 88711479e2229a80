/-! the class: readTexts -/
/-- what has been used for words and their postings -/
def rUse (N : Nat) (wp : List (Int64 × List (Nat × Nat))) (m cd dd : Nat) : Prop := wp.length ≤ N ∧ sumL phiL wp ≤ 176 * N ∧ 2 * m ≤ 20 + 3 * wp.length ∧ cd ≤ 3 * wp.length + sumL (fun x => gB (bLen x)) wp + m / 5 ∧ dd ≤ 18 * wp.length + sumL (fun x => sG (bLen x)) wp + 4 * m
theorem gwL_le {m n W : Nat} (h1 : n ≤ m) (h2 : 2 * m ≤ 20 + 3 * W) (h3 : n ≤ W) : 2 * gwL m n ≤ 20 + 3 * (W + 1) ∧ m ≤ gwL m n ∧ (m = 0 ∨ 10 ≤ m → (if n = m then 1 else 0) + m / 5 ≤ gwL m n / 5 ∧ (if n = m then gwL m m else 0) + 4 * m ≤ 4 * gwL m n) := by
  unfold gwL
  by_cases e : n = m
  · rw [if_pos e, if_pos e, if_pos rfl, if_pos e]
    by_cases e2 : m = 0
    · rw [if_pos e2]
      exact ⟨by omega, by omega, fun _ => ⟨by omega, by omega⟩⟩
    · rw [if_neg e2]
      exact ⟨by omega, by omega, fun h => ⟨by omega, by omega⟩⟩
  · rw [if_neg e, if_neg e, if_neg e]
    exact ⟨by omega, by omega, fun _ => ⟨by omega, by omega⟩⟩
theorem sum_gs {wp : List (Int64 × List (Nat × Nat))} : 32 * sumL (fun x => gB (bLen x)) wp ≤ sumL phiL wp ∧ 2 * sumL (fun x => sG (bLen x)) wp ≤ sumL phiL wp := by
  have h1 := sumL_mul (a := 32) (c := 1) (d := 0) (f := fun x => gB (bLen x)) (g := phiL) (l := wp) (fun x _ => by
    have := cap_inv (bLen x)
    show 32 * gB (bLen x) ≤ 1 * (bLen x + 8 * _) + 0
    omega)
  have h2 := sumL_mul (a := 2) (c := 1) (d := 0) (f := fun x => sG (bLen x)) (g := phiL) (l := wp) (fun x _ => by
    have := cap_inv (bLen x)
    show 2 * sG (bLen x) ≤ 1 * (bLen x + 8 * _) + 0
    omega)
  exact ⟨by omega, by omega⟩
theorem sum_ge {wp : List (Int64 × List (Nat × Nat))} (h : ∀ x, x ∈ wp → okP 0 x.2) : 32 * sumL (fun x => gB (eLen x)) wp ≤ sumL phiL wp + 4 * wp.length ∧ 2 * sumL (fun x => sG (eLen x)) wp ≤ sumL phiL wp + 4 * wp.length := by
  have h1 := sumL_mul (a := 32) (c := 1) (d := 4) (f := fun x => gB (eLen x)) (g := phiL) (l := wp) (fun x hx => by
    have := cap_inv (eLen x)
    have := (eLen_le (h x hx)).1
    show 32 * gB (eLen x) ≤ 1 * phiL x + 4
    omega)
  have h2 := sumL_mul (a := 2) (c := 1) (d := 4) (f := fun x => sG (eLen x)) (g := phiL) (l := wp) (fun x hx => by
    have := cap_inv (eLen x)
    have := (eLen_le (h x hx)).1
    show 2 * sG (eLen x) ≤ 1 * phiL x + 4
    omega)
  exact ⟨by omega, by omega⟩
/-- the texts of the documents, as a segment finds them -/
def rdT (S : cS) (ρ : Nat → Nat) (dp A fl dl md : Nat) (ds : List Nat) (TL : Nat → List (Int64 × Nat)) : Prop := cA S A 8 ∧ ρ A ≠ 81 ∧ cr S 257 A = some dl ∧ lsT S dp dl 0 ds md ∧ (∀ z, lsF S dp dl z → ρ z ≠ 81) ∧ ∀ (i D : Nat), ds[i]? = some D → cA S D 0 ∧ ρ D ≠ 81 ∧ ∃ t m, cr S (3 + fl) D = some t ∧ tTk S t m (TL i) ∧ ∀ z, tF S t z → ρ z ≠ 81
theorem tF_sub {S T : cS} {F : Nat → Prop} {t m z : Nat} {l : List (Int64 × Nat)} (s : cSub S T F) (ht : tTk S t m l) (hF : ∀ z, tF S t z → ¬ F z) (hz : tF T t z) : tF S t z := by
  have nt := hF t (Or.inl rfl)
  unfold tF at hz ⊢
  rw [sub_cr s ht.1 nt, sub_cr s ht.1 nt] at hz
  exact hz
section RT2
variable {S T : cS} {ρ ρ' : Nat → Nat} {dp wl m A fl dl md : Nat} {ws ds : List Nat} {wp : List (Int64 × List (Nat × Nat))} {TL : Nat → List (Int64 × Nat)}
theorem rdT_sub (s : cSub S T (fun z => ρ z = 81)) (hρ : ∀ a, a ∈ cL S → ρ' a = ρ a) (g : rdT S ρ dp A fl dl md ds TL) : rdT T ρ' dp A fl dl md ds TL := by
  obtain ⟨g1, g2, g3, g4, g5, g6⟩ := g
  have g4' := lsT_sub s g4 g5
  refine ⟨sub_A1 s g1, by rw [hρ A g1.1]; exact g2, (sub_cr s g1 g2).trans g3, g4', fun z hz => ?_, fun i D hD => ?_⟩
  · have hz' : lsF S dp dl z := by
      unfold lsF at hz ⊢
      rw [sub_cr s g4.1 (g5 dl (Or.inl rfl))] at hz; exact hz
    rw [hρ z (lsF_in g4 hz')]
    exact g5 z hz'
  · obtain ⟨d1, d2, t, mt, d3, d4, d5⟩ := g6 i D hD
    refine ⟨sub_A1 s d1, by rw [hρ D d1.1]; exact d2, t, mt, (sub_cr s d1 d2).trans d3, tTk_sub s d4 d5, fun z hz => ?_⟩
    have hz' : tF S t z := by
      have nt := d5 t (Or.inl rfl)
      unfold tF at hz ⊢
      rw [sub_cr s d4.1 nt, sub_cr s d4.1 nt] at hz; exact hz
    rw [hρ z (tF_in d4 hz')]
    exact d5 z hz'
theorem q_textOf {Q : Nat → cS → Prop} {D t k : Nat} (hD : cA S D 0) (hk : k < 2) (ht : cr S (3 + k) D = some t) (h : Q t S) : k_X0_textOf Q dp D (nI k) S := by
  unfold k_X0_textOf
  refine w_nz k (fun z => ⟨hD, t, ?_, h⟩) (fun z => ⟨hD, t, ?_, h⟩)
  · obtain rfl : k = 1 := by omega
    exact ht
  · subst z; exact ht
theorem q_wordsOf {Q : Nat → cS → Prop} {k : Nat} (hA : cA S A 8) (hk : k < 2) (ht : cr S (258 + k) A = some wl) (h : Q wl S) : k_X8_wordsOf Q dp A (nI k) S := by
  unfold k_X8_wordsOf
  refine w_nz k (fun z => ⟨hA, wl, ?_, h⟩) (fun z => ⟨hA, wl, ?_, h⟩)
  · obtain rfl : k = 1 := by omega
    exact ht
  · subst z; exact ht
set_option maxHeartbeats 4000000 in
theorem q_readTexts {Q : cS → Prop} {K mc ms : Nat} (hf : fl < 2) (hT : rdT S ρ dp A fl dl md ds TL) (hwl : cr S (258 + fl) A = some wl) (hw : wC S ρ dp wl [] 0 []) (hK : ds.length = K) (hK1 : K ≤ 100) (hok : ∀ i, okT (TL i)) (hfc : ∀ i, fcN (TL i) (TL i).length ≤ 30) (hdp : dpO dp S) (hc : 300 * K + 2 ≤ mc) (hs : 3480 * K + 40 ≤ ms) (h : ∀ T ρ' ws m wp, cSub S T (fun z => ρ z = 81) → (∀ a, a ∈ cL S → ρ' a = ρ a) → wOk wp (fun c => pstOf TL c K) → wD T ρ' dp wl ws m wp → Q T) : k_X8_readTexts Q dp mc ms A (nI fl) S := by
  unfold k_X8_readTexts
  refine ⟨hT.1, ⟨by omega, by omega⟩, q_wordsOf hT.1 hf hwl ?_⟩
  unfold k_X8_readTexts_8L
  have fin_use : ∀ {N m cd dd : Nat} {wp : List (Int64 × List (Nat × Nat))}, rUse N wp m cd dd → N ≤ 30 * K → cd ≤ mc ∧ dd ≤ ms ∧ 2 * m ≤ 20 + 3 * (30 * K) := by
    rintro N m cd dd wp ⟨u1, u2, u3, u4, u5⟩ hN
    obtain ⟨g1, g2⟩ := sum_gs (wp := wp)
    exact ⟨by omega, by omega, by omega⟩
  have use0 : rUse 0 ([] : List (Int64 × List (Nat × Nat))) 0 0 0 := ⟨by decide, by decide, by decide, by decide, by decide⟩
  have ok0 : wOk ([] : List (Int64 × List (Nat × Nat))) (pstAt TL 0 0) := ⟨fun a b x y _ hx => absurd (get_lt hx) (Nat.not_lt_zero a), fun j x hx => absurd (get_lt hx) (Nat.not_lt_zero j), fun c hc => absurd pstAt_0 hc⟩
  -- documents
  refine lfp_cnt K (fun i y => ∃ S' ρ' ws m wp cd dd, cSub S S' (fun z => ρ z = 81) ∧ (∀ a, a ∈ cL S → ρ' a = ρ a) ∧ wC S' ρ' dp wl ws m wp ∧ (m = 0 ∨ 10 ≤ m) ∧ wOk wp (pstAt TL i 0) ∧ rUse (30 * i) wp m cd dd ∧ y = (A, nI fl, wl, nI i, cd, dd, S')) ?_ ⟨S, ρ, [], 0, [], 0, 0, sub_rf, fun _ _ => rfl, hw, Or.inl rfl, ok0, use0, rfl⟩
  rintro P i _ hi ⟨S', ρ', ws, m, wp, cd, dd, s, hρ, hC, hm10, hO, hU, rfl⟩ ih
  show k_X8_readTexts_8 Q dp mc ms _ A (nI fl) wl (nI i) cd dd S'
  obtain ⟨fu1, fu2, fu3⟩ := fin_use hU (by omega)
  obtain ⟨g1, g2, g3, g4, g5, g6⟩ := id (rdT_sub s hρ hT)
  unfold k_X8_readTexts_8
  refine ⟨g1, dl, g3, g4.1, ⟨fu1, fu2⟩, q_lsize g4 ?_⟩
  refine pk_le ds.length i (fun z => ?_) (fun hlt => ?_) (ha := by omega)
  · obtain rfl : i = K := by omega
    have hO' : wOk wp (fun c => pstOf TL c i) := by
      have : pstAt TL i 0 = fun c => pstOf TL c i := by funext c; exact pstAt_0
      rw [← this]; exact hO
    have hokx : ∀ x, x ∈ wp → okP 0 x.2 := fun x hx => by
      obtain ⟨j, hj⟩ := List.getElem?_of_mem hx
      obtain ⟨p, hp⟩ := get_ex (l := ws) (k := j) (by have := get_lt hj; have := hC.2.2.1; omega)
      obtain ⟨-, -, -, -, o, ho⟩ := hC
      exact (ho j p x hp hj).1.2
    obtain ⟨u1, u2, u3, u4, u5⟩ := hU
    obtain ⟨v1, v2⟩ := sum_gs (wp := wp)
    obtain ⟨v3, v4⟩ := sum_ge hokx
    refine q_closeAll hC (by omega) (by omega) fu1 fu2 (fun T ρ'' s' hρ' hD => ?_)
    exact h T ρ'' ws m wp (sub_tr s s' (fun a ha z => (hρ a ha).symm.trans z)) (fun a ha => (hρ' a (s a ha).1.1).trans (hρ a ha)) hO' hD
  · obtain ⟨D, hD⟩ := get_ex hlt
    obtain ⟨d1, d2, t, mt, d3, d4, d5⟩ := g6 i D hD
    refine ⟨g1, dl, g3, g4.1, ⟨fu1, fu2⟩, q_lget g4 hD ⟨d1, d1, ⟨fu1, fu2⟩, q_textOf d1 hf d3 ?_⟩⟩
    unfold k_X8_readTexts_39L
    -- tokens
    refine lfp_cnt (TL i).length (fun tk y => ∃ S'' ρ'' ws m wp cd dd, cSub S S'' (fun z => ρ z = 81) ∧ (∀ a, a ∈ cL S → ρ'' a = ρ a) ∧ wC S'' ρ'' dp wl ws m wp ∧ (m = 0 ∨ 10 ≤ m) ∧ wOk wp (pstAt TL i tk) ∧ rUse (30 * i + fcN (TL i) tk) wp m cd dd ∧ tTk S'' t mt (TL i) ∧ (∀ z, tF S'' t z → ρ'' z ≠ 81) ∧ y = (A, nI fl, wl, nI i, t, nI tk, cd, dd, S'')) ?_ ⟨S', ρ', ws, m, wp, cd, dd, s, hρ, hC, hm10, hO, hU, d4, d5, rfl⟩
    · clear hU hO hC hρ s fu1 fu2 fu3 g1 g2 g3 g4 g5 g6 hm10 d1 d2 d3 d4 d5 hD
      rintro P2 tk _ htk ⟨S'', ρ'', ws, m, wp, cd, dd, s, hρ, hC, hm10, hO, hU, d4, nt, rfl⟩ ih2
      show k_X8_readTexts_39 Q dp mc ms (fun b0 b1 b2 b3 b4 b5 S => P (b0, b1, b2, b3, b4, b5, S)) (fun b0 b1 b2 b3 b4 b5 b6 b7 S => P2 (b0, b1, b2, b3, b4, b5, b6, b7, S)) A (nI fl) wl (nI i) t (nI tk) cd dd S''
      have hll := (hok i).1
      have hfi := hfc i
      have hft := fcN_le (TL i) tk ((TL i).length - tk)
      rw [show tk + ((TL i).length - tk) = (TL i).length by omega] at hft
      obtain ⟨fu1, fu2, fu3⟩ := fin_use hU (by omega)
      unfold k_X8_readTexts_39
      rw [d4.2.1]
      refine ⟨d4.1, (w_nle (TL i).length tk (fun hlt => ?_) (fun z => ?_)).symm⟩
      · obtain ⟨x, hx⟩ := get_ex hlt
        have nxt : ∀ (T : cS) (ρ3 : Nat → Nat) (ws : List Nat) (m : Nat) (wp : List (Int64 × List (Nat × Nat))) (cd dd : Nat), cSub S T (fun z => ρ z = 81) → (∀ a, a ∈ cL S → ρ3 a = ρ a) → wC T ρ3 dp wl ws m wp → (m = 0 ∨ 10 ≤ m) → wOk wp (pstAt TL i (tk + 1)) → rUse (30 * i + fcN (TL i) (tk + 1)) wp m cd dd → tTk T t mt (TL i) → (∀ z, tF T t z → ρ3 z ≠ 81) → k_X8_readTexts_85 Q dp mc ms (fun b0 b1 b2 b3 b4 b5 S => P (b0, b1, b2, b3, b4, b5, S)) (fun b0 b1 b2 b3 b4 b5 b6 b7 S => P2 (b0, b1, b2, b3, b4, b5, b6, b7, S)) A (nI fl) wl (nI i) t (nI tk) cd dd T := by
          intro T ρ3 ws m wp cd dd e1 e2 e3 e4 e5 e6 e7 e8
          unfold k_X8_readTexts_85
          rintro _ rfl
          rw [nI_add]
          exact ih2 _ hlt ⟨T, ρ3, ws, m, wp, cd, dd, e1, e2, e3, e4, e5, e6, e7, e8, rfl⟩
        refine ⟨d4.1, ⟨fu1, fu2⟩, q_isFirst d4 hx ?_⟩
        refine w_b0 (decide (pmk x.1 (TL i) % 2 ^ x.2 = 0)) (fun c0 => ?_) (fun c1 => ?_)
        · have hn : pmk x.1 ((TL i).take tk) ≠ 0 := fun z => of_decide_eq_false c0 ((first_iff (hok i) hx).mpr z)
          refine nxt S'' ρ'' ws m wp cd dd s hρ hC hm10 ?_ ?_ d4 nt
          · rw [pstAt_no hx hn]; exact hO
          · rw [fcN_s hx, if_neg hn]; exact hU
        · have hy : pmk x.1 ((TL i).take tk) = 0 := (first_iff (hok i) hx).mp (of_decide_eq_true c1)
          have hf1 : fcN (TL i) (tk + 1) = fcN (TL i) tk + 1 := by rw [fcN_s hx, if_pos hy]
          have hft1 := fcN_le (TL i) (tk + 1) ((TL i).length - (tk + 1))
          rw [show tk + 1 + ((TL i).length - (tk + 1)) = (TL i).length by omega] at hft1
          have hpQ : pstAt TL i tk x.1 = pstOf TL x.1 i := by rw [pstAt, if_pos hy, List.append_nil]
          obtain ⟨po1, po2, po3⟩ := pstOf_ok (TL := TL) (c := x.1) hok (i := i) (by omega)
          have hbit : (pmk x.1 (TL i)).testBit x.2 = true := (pmk_tb _ _ _).mpr (List.mem_of_getElem? hx)
          have hx20 : x.2 < 20 := (hok i).2.1 x (List.mem_of_getElem? hx)
          have hm20 : pmk x.1 (TL i) < 2 ^ 20 := pmk_lt (hok i).2.1
          have hne0 : pmk x.1 (TL i) ≠ 0 := fun z => by rw [z, Nat.zero_testBit] at hbit; exact Bool.noConfusion hbit
          obtain ⟨u1, u2, u3, u4, u5⟩ := id hU
          obtain ⟨v1, v2⟩ := sum_gs (wp := wp)
          have hwm := hC.1.2.2.1
          have hwl' := hC.2.2.1
          obtain ⟨y1, y2, y3⟩ := gwL_le (n := ws.length) (W := wp.length) hwm u3 (by omega)
          have y3 := y3 hm10
          obtain ⟨q1, q2⟩ := okP_N po1
          have hdl := docN_len (i := i) (lp := lpP 0 (pstOf TL x.1 i)) (m := pmk x.1 (TL i))
          obtain ⟨r1, r2, r3⟩ := putNs_ok q1 (docN_128 (i := i) (lp := lpP 0 (pstOf TL x.1 i)) (m := pmk x.1 (TL i)) (by omega))
          have bl2 : bLen (x.1, pstOf TL x.1 i ++ [(i, pmk x.1 (TL i))]) = (putNs (putNs ([], []) (nmN 0 (pstOf TL x.1 i))) (docN i (lpP 0 (pstOf TL x.1 i)) (pmk x.1 (TL i)))).1.length := by
            unfold bLen
            rw [put_snoc]
          have bl1 : bLen (x.1, pstOf TL x.1 i) = (putNs ([], []) (nmN 0 (pstOf TL x.1 i))).1.length := rfl
          have bl : bLen (x.1, pstOf TL x.1 i) ≤ bLen (x.1, pstOf TL x.1 i ++ [(i, pmk x.1 (TL i))]) := by rw [bl1, bl2]; exact r2
          have bg : gB (bLen (x.1, pstOf TL x.1 i)) ≤ gB (bLen (x.1, pstOf TL x.1 i ++ [(i, pmk x.1 (TL i))])) ∧ sG (bLen (x.1, pstOf TL x.1 i)) ≤ sG (bLen (x.1, pstOf TL x.1 i ++ [(i, pmk x.1 (TL i))])) := by
            have := cap_mono (bLen (x.1, pstOf TL x.1 i)) (bLen (x.1, pstOf TL x.1 i ++ [(i, pmk x.1 (TL i))]) - bLen (x.1, pstOf TL x.1 i))
            rw [show bLen (x.1, pstOf TL x.1 i) + (bLen (x.1, pstOf TL x.1 i ++ [(i, pmk x.1 (TL i))]) - bLen (x.1, pstOf TL x.1 i)) = bLen (x.1, pstOf TL x.1 i ++ [(i, pmk x.1 (TL i))]) by omega] at this
            exact this
          have hphi := phi_snoc (c := x.1) (m := pmk x.1 (TL i)) po1 (show i < 100 by omega)
          -- a document is put into its word's postings
          have put : ∀ (T : cS) (ρ3 : Nat → Nat) (ws : List Nat) (m : Nat) (wp3 : List (Int64 × List (Nat × Nat))) (k p e1 e2 : Nat), cSub S T (fun z => ρ z = 81) → (∀ a, a ∈ cL S → ρ3 a = ρ a) → wC T ρ3 dp wl ws m wp3 → (m = 0 ∨ 10 ≤ m) → tTk T t mt (TL i) → (∀ z, tF T t z → ρ3 z ≠ 81) → ws[k]? = some p → wp3[k]? = some (x.1, pstOf TL x.1 i) → wOk (wp3.set k (x.1, pstOf TL x.1 i ++ [(i, pmk x.1 (TL i))])) (pstAt TL i (tk + 1)) → rUse (30 * i + fcN (TL i) tk + 1) (wp3.set k (x.1, pstOf TL x.1 i ++ [(i, pmk x.1 (TL i))])) m (e1 + (gB (bLen (x.1, pstOf TL x.1 i ++ [(i, pmk x.1 (TL i))])) - gB (bLen (x.1, pstOf TL x.1 i)))) (e2 + (sG (bLen (x.1, pstOf TL x.1 i ++ [(i, pmk x.1 (TL i))])) - sG (bLen (x.1, pstOf TL x.1 i)))) → cA T t 9 ∧ ((e1 ≤ mc ∧ e2 ≤ ms) ∧ k_X9_placesOf (fun r_20 S_20 => cA S_20 p 5 ∧ ∃ mc21 ms22 : Nat, e1 + mc21 ≤ mc ∧ e2 + ms22 ≤ ms ∧ k_X5_putDocument (fun S_23 => k_X8_readTexts_85 Q dp mc ms (fun b0 b1 b2 b3 b4 b5 S => P (b0, b1, b2, b3, b4, b5, S)) (fun b0 b1 b2 b3 b4 b5 b6 b7 S => P2 (b0, b1, b2, b3, b4, b5, b6, b7, S)) A (nI fl) wl (nI i) t (nI tk) (e1 + mc21) (e2 + ms22) S_23) dp mc21 ms22 p (nI i) r_20 S_20) dp t x.1 T) := by
            intro T ρ3 ws m wp3 k p e1 e2 f1 f2 f3 f4 f5 f6 f7 f8 f9 f10
            obtain ⟨-, -, -, -, o, ho⟩ := id f3
            obtain ⟨⟨gP, -⟩, gF⟩ := ho k p _ f7 f8
            obtain ⟨z1, z2, -⟩ := fin_use f10 (by omega)
            refine ⟨f5.1, ⟨by omega, by omega⟩, q_placesOf f5 ⟨gP.1.1, gB (bLen (x.1, pstOf TL x.1 i ++ [(i, pmk x.1 (TL i))])) - gB (bLen (x.1, pstOf TL x.1 i)), sG (bLen (x.1, pstOf TL x.1 i ++ [(i, pmk x.1 (TL i))])) - sG (bLen (x.1, pstOf TL x.1 i)), z1, z2, ?_⟩⟩
            refine q_putDocument gP q1.1 (by omega) po2 hm20 hx20 hbit (by show (pstOf TL x.1 i).length < 1000; omega) (by show (putNs ([], []) (nmN 0 (pstOf TL x.1 i))).1.length + 400 < 2 ^ 19; omega) ?_ ?_ (fun U v gU => ?_)
            · show gB (putNs (putNs ([], []) (nmN 0 (pstOf TL x.1 i))) (docN i (lpP 0 (pstOf TL x.1 i)) (pmk x.1 (TL i)))).1.length ≤ gB (bLen (x.1, pstOf TL x.1 i)) + _
              rw [← bl2]; omega
            · show sG (putNs (putNs ([], []) (nmN 0 (pstOf TL x.1 i))) (docN i (lpP 0 (pstOf TL x.1 i)) (pmk x.1 (TL i)))).1.length ≤ sG (bLen (x.1, pstOf TL x.1 i)) + _
              rw [← bl2]; omega
            · have gU' : pP U p (x.1, pstOf TL x.1 i ++ [(i, pmk x.1 (TL i))]) := by
                refine ⟨?_, okP_snoc (by omega) hm20 hne0 po1 po2⟩
                show pC U p x.1 (putNs ([], []) (nmN 0 (pstOf TL x.1 i ++ [(i, pmk x.1 (TL i))]))).1 (putNs ([], []) (nmN 0 (pstOf TL x.1 i ++ [(i, pmk x.1 (TL i))]))).2 (pstOf TL x.1 i ++ [(i, pmk x.1 (TL i))]).length (lpP 0 (pstOf TL x.1 i ++ [(i, pmk x.1 (TL i))]))
                rw [put_snoc, lpP_snoc, List.length_append]
                exact gU
              obtain ⟨w1, w2⟩ := wC_put f3 f7 f8 v gU'
              refine nxt U _ ws m _ _ _ (sub_tr f1 w2 (fun a ha z => (f2 a ha).symm.trans z)) (fun a ha => (rtg_o (f1 a ha).1.1).trans (f2 a ha)) w1 f4 f9 (by rw [hf1]; exact f10) (tTk_sub w2 f5 f6) (fun z hz => ?_)
              have hz' := tF_sub w2 f5 f6 hz
              rw [show rtg T id ρ3 81 z = ρ3 z from rtg_o (tF_in f5 hz')]
              exact f6 z hz'
          have hdp2 : dpO dp S'' := dp_O
          have hyes := pstAt_yes hx hy
          by_cases hfd : ∃ (j : Nat) (y : Int64 × List (Nat × Nat)), wp[j]? = some y ∧ y.1 = x.1
          · refine ⟨d4.1, ⟨fu1, fu2⟩, q_codeAt d4 hx ⟨0, 0, fu1, fu2, q_own hdp2 hC hO (by omega) (by omega) (fun hn => ?_) (fun hn => ?_) (fun k p hp hk => ?_) (fun T k p sT wT pl hn => ?_)⟩⟩
            · obtain ⟨j, y, hj, he⟩ := hfd
              exact absurd he (hn j y hj)
            · obtain ⟨j, y, hj, he⟩ := hfd
              exact absurd he (hn j y hj)
            · have hk' : wp[k]? = some (x.1, pstOf TL x.1 i) := by rw [← hpQ]; exact hk
              have ss := fun f => sumL_set f wp k (x.1, pstOf TL x.1 i) (x.1, pstOf TL x.1 i ++ [(i, pmk x.1 (TL i))]) hk'
              have s1 := ss phiL
              have s2 : _ + gB (bLen (x.1, pstOf TL x.1 i)) = _ + gB (bLen (x.1, pstOf TL x.1 i ++ [(i, pmk x.1 (TL i))])) := ss (fun x => gB (bLen x))
              have s3 : _ + sG (bLen (x.1, pstOf TL x.1 i)) = _ + sG (bLen (x.1, pstOf TL x.1 i ++ [(i, pmk x.1 (TL i))])) := ss (fun x => sG (bLen x))
              refine put S'' ρ'' ws m wp k p (cd + 0) (dd + 0) s hρ hC hm10 d4 nt hp hk' ?_ ⟨by rw [List.length_set]; omega, by omega, by rw [List.length_set]; exact u3, by rw [List.length_set]; omega, by rw [List.length_set]; omega⟩
              rw [hyes, ← hpQ]
              exact wOk_upd hO hk
            · obtain ⟨j, y, hj, he⟩ := hfd
              exact absurd he (plW_none hO.1 pl hn j y hj)
          · have hfd' : ∀ (j : Nat) (y : Int64 × List (Nat × Nat)), wp[j]? = some y → y.1 ≠ x.1 := fun j y hj he => hfd ⟨j, y, hj, he⟩
            have pn : pstOf TL x.1 i = [] := by
              rw [← hpQ]
              by_cases z : pstAt TL i tk x.1 = []
              · exact z
              · obtain ⟨j, y, hj, he⟩ := hO.2.2 x.1 z
                exact absurd he (hfd' j y hj)
            have b0 : bLen (x.1, ([] : List (Nat × Nat))) = 0 := rfl
            have p0 : phiL (x.1, ([] : List (Nat × Nat))) = 0 := rfl
            rw [pn] at put bg hphi
            rw [b0] at put bg
            rw [p0] at hphi
            have g00 : gB 0 = 0 := rfl
            have s00 : sG 0 = 0 := rfl
            rw [g00, s00] at put
            have pre : rUse (30 * i + fcN (TL i) tk + 1) (wp ++ [(x.1, ([] : List (Nat × Nat)) ++ [(i, pmk x.1 (TL i))])]) (gwL m ws.length) (cd + (3 + if ws.length = m then 1 else 0) + (gB (bLen (x.1, ([] : List (Nat × Nat)) ++ [(i, pmk x.1 (TL i))])) - 0)) (dd + (18 + if ws.length = m then gwL m m else 0) + (sG (bLen (x.1, ([] : List (Nat × Nat)) ++ [(i, pmk x.1 (TL i))])) - 0)) := by
              have e1 : sumL phiL (wp ++ [(x.1, ([] : List (Nat × Nat)) ++ [(i, pmk x.1 (TL i))])]) = sumL phiL wp + (phiL (x.1, ([] : List (Nat × Nat)) ++ [(i, pmk x.1 (TL i))]) + 0) := sumL_app _ _ _
              have e2 : sumL (fun x => gB (bLen x)) (wp ++ [(x.1, ([] : List (Nat × Nat)) ++ [(i, pmk x.1 (TL i))])]) = sumL (fun x => gB (bLen x)) wp + (gB (bLen (x.1, ([] : List (Nat × Nat)) ++ [(i, pmk x.1 (TL i))])) + 0) := sumL_app _ _ _
              have e3 : sumL (fun x => sG (bLen x)) (wp ++ [(x.1, ([] : List (Nat × Nat)) ++ [(i, pmk x.1 (TL i))])]) = sumL (fun x => sG (bLen x)) wp + (sG (bLen (x.1, ([] : List (Nat × Nat)) ++ [(i, pmk x.1 (TL i))])) + 0) := sumL_app _ _ _
              have e4 : (wp ++ [(x.1, ([] : List (Nat × Nat)) ++ [(i, pmk x.1 (TL i))])]).length = wp.length + 1 := by rw [List.length_append]; rfl
              refine ⟨by rw [e4]; omega, by rw [e1]; omega, by rw [e4]; exact y1, by rw [e4, e2]; omega, by rw [e4, e3]; omega⟩
            obtain ⟨z1, z2, -⟩ := fin_use pre (by omega)
            refine ⟨d4.1, ⟨fu1, fu2⟩, q_codeAt d4 hx ⟨3 + (if ws.length = m then 1 else 0), 18 + (if ws.length = m then gwL m m else 0), by omega, by omega, q_own hdp2 hC hO (by omega) (by omega) (fun _ => Nat.le_refl _) (fun _ => Nat.le_refl _) (fun k p hp hk => ?_) (fun T k p sT wT pl hn => ?_)⟩⟩
            · exact absurd rfl (hfd' k _ hk)
            · have hkw : k ≤ wp.length := pl.1
              have nF : ∀ z, tF S'' t z → ¬ lsF S'' dp wl z := fun z h1 h2 => nt z h1 (hC.2.1 z h2)
              have sT' : cSub S'' T (fun z => ρ'' z = 81) := sub_wk sT (fun z _ hz => hC.2.1 z hz)
              have hset : (wp.take k ++ (x.1, ([] : List (Nat × Nat))) :: wp.drop k).set k (x.1, ([] : List (Nat × Nat)) ++ [(i, pmk x.1 (TL i))]) = wp.take k ++ (x.1, ([] : List (Nat × Nat)) ++ [(i, pmk x.1 (TL i))]) :: wp.drop k := by
                have hl : (wp.take k).length = k := by rw [List.length_take]; omega
                rw [List.set_append_right _ _ (by omega), hl, Nat.sub_self, List.set_cons_zero]
              obtain ⟨pre1, pre2, pre3, pre4, pre5⟩ := pre
              have e0 := sumL_ins phiL wp k (x.1, ([] : List (Nat × Nat)) ++ [(i, pmk x.1 (TL i))])
              have e1 : sumL phiL (wp ++ [(x.1, ([] : List (Nat × Nat)) ++ [(i, pmk x.1 (TL i))])]) = sumL phiL wp + (phiL (x.1, ([] : List (Nat × Nat)) ++ [(i, pmk x.1 (TL i))]) + 0) := sumL_app _ _ _
              have e2 : sumL (fun x => gB (bLen x)) (wp ++ [(x.1, ([] : List (Nat × Nat)) ++ [(i, pmk x.1 (TL i))])]) = sumL (fun x => gB (bLen x)) wp + (gB (bLen (x.1, ([] : List (Nat × Nat)) ++ [(i, pmk x.1 (TL i))])) + 0) := sumL_app _ _ _
              have e3 : sumL (fun x => sG (bLen x)) (wp ++ [(x.1, ([] : List (Nat × Nat)) ++ [(i, pmk x.1 (TL i))])]) = sumL (fun x => sG (bLen x)) wp + (sG (bLen (x.1, ([] : List (Nat × Nat)) ++ [(i, pmk x.1 (TL i))])) + 0) := sumL_app _ _ _
              have e2' : sumL (fun x => gB (bLen x)) (wp.take k ++ (x.1, ([] : List (Nat × Nat)) ++ [(i, pmk x.1 (TL i))]) :: wp.drop k) = _ + gB (bLen (x.1, ([] : List (Nat × Nat)) ++ [(i, pmk x.1 (TL i))])) := sumL_ins (fun x => gB (bLen x)) wp k _
              have e3' : sumL (fun x => sG (bLen x)) (wp.take k ++ (x.1, ([] : List (Nat × Nat)) ++ [(i, pmk x.1 (TL i))]) :: wp.drop k) = _ + sG (bLen (x.1, ([] : List (Nat × Nat)) ++ [(i, pmk x.1 (TL i))])) := sumL_ins (fun x => sG (bLen x)) wp k _
              have e4 : (wp ++ [(x.1, ([] : List (Nat × Nat)) ++ [(i, pmk x.1 (TL i))])]).length = wp.length + 1 := by rw [List.length_append]; rfl
              rw [e4] at pre1 pre3 pre4 pre5
              refine put T (rtg S'' id ρ'' 81) _ _ _ k p _ _ (sub_tr s sT' (fun a ha z => (hρ a ha).symm.trans z)) (fun a ha => (rtg_o (s a ha).1.1).trans (hρ a ha)) wT ?_ (tTk_sub sT d4 nF) (fun z hz => ?_) ((insA_get (by have := hC.2.2.1; omega)).mpr (Or.inr (Or.inl ⟨rfl, rfl⟩))) ((insA_get hkw).mpr (Or.inr (Or.inl ⟨rfl, rfl⟩))) ?_ ?_
              · unfold gwL
                split
                · split <;> omega
                · exact hm10
              · have hz' := tF_sub sT d4 nF hz
                rw [show rtg S'' id ρ'' 81 z = ρ'' z from rtg_o (tF_in d4 hz')]
                exact nt z hz'
              · rw [hset, hyes]
                have := (wOk_new (y := (i, pmk x.1 (TL i))) hO pl hn).2
                rw [hpQ, pn] at this ⊢
                exact this
              · rw [hset]
                refine ⟨by rw [insA_len hkw]; omega, by rw [e0]; omega, by rw [insA_len hkw]; omega, by rw [insA_len hkw, e2']; omega, by rw [insA_len hkw, e3']; omega⟩
      · obtain rfl : tk = (TL i).length := by omega
        rintro _ rfl
        rw [nI_add]
        refine ih _ (by omega) ⟨S'', ρ'', ws, m, wp, cd, dd, s, hρ, hC, hm10, ?_, ?_, rfl⟩
        · have : pstAt TL (i + 1) 0 = pstAt TL i (TL i).length := by
            funext c
            rw [pstAt_0, pstAt_e (Nat.le_refl _)]
          rw [this]; exact hO
        · obtain ⟨u1, u2, u3, u4, u5⟩ := hU
          exact ⟨by omega, by omega, u3, u4, u5⟩
end RT2
