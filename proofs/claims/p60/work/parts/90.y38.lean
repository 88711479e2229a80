/-! the class: a segment's words are read -/
section RW2
variable {S T : cS} {ρ ρ' : Nat → Nat} {dp x A n : Nat} {ds : List Nat} {L : List Dc}
theorem okT_nil : okT [] := ⟨Nat.zero_le _, fun x hx => absurd hx (List.not_mem_nil), fun a b x y _ ha => absurd (get_lt ha) (Nat.not_lt_zero a)⟩
theorem tlD_ok (h : ∀ d, d ∈ L → okD d) (fl i : Nat) : okT (tlD L fl i) ∧ fcN (tlD L fl i) (tlD L fl i).length ≤ 30 := by
  unfold tlD
  cases e : L[i]? with
  | none => exact ⟨okT_nil, Nat.zero_le 30⟩
  | some d => exact (h d (List.mem_of_getElem? e)).2.2.2 fl
/-- tags after the words are read -/
noncomputable def tgR (T : cS) (ρ2 : Nat → Nat) : Nat → Nat := fun a => if ρ2 a = 81 then (if cK T a = 5 then 80 else 8) else if ρ2 a = 84 then 81 else ρ2 a
set_option maxHeartbeats 1000000 in
theorem g_rt {Q : cS → Prop} {mc ms fl wl dl md : Nat} (hfl : fl < 2) (hA : cA S A 8) (hρA : ρ A = 8) (h257 : cr S 257 A = some dl) (hdl : lsT S dp dl 0 ds md) (hdt : ∀ z, lsF S dp dl z → ρ z = 8) (hwl : cr S (258 + fl) A = some wl) (hw : lsT S dp wl 5 [] 0) (hρw : ρ wl = 81) (hlen : ds.length = L.length) (hd : ∀ (i D : Nat) (d : Dc), ds[i]? = some D → L[i]? = some d → gFz S ρ D d) (hok : ∀ d, d ∈ L → okD d) (hL : L.length ≤ 100) (hdp : dpO dp S) (hm : 300 * L.length + 2 ≤ mc) (hs : 3480 * L.length + 40 ≤ ms) (h : ∀ T ρ3 wp, fr S T ρ ρ3 [81, 84] → gWd T ρ3 dp wl wp → wOk wp (fun c => pstOf (tlD L fl) c L.length) → (∀ a, a ∈ cL S → ρ a = 84 → cSub S T (fun z => ρ z = 81) ∧ ρ3 a = 81) → Q T) : k_X8_readTexts Q dp mc ms A (nI fl) S := by
  have hT : rdT S ρ dp A fl dl md ds (tlD L fl) := by
    refine ⟨hA, by rw [hρA]; decide, h257, hdl, fun z hz => by rw [hdt z hz]; decide, fun i D hD => ?_⟩
    obtain ⟨d, hd'⟩ := get_ex (l := L) (k := i) (by have := get_lt hD; omega)
    obtain ⟨g1, g2, -, -, -, g6⟩ := hd i D d hD hd'
    obtain ⟨t, m, t1, t2, t3⟩ := g6 fl hfl
    refine ⟨g1, by rw [g2]; decide, t, m, t1, ?_, fun z hz => by rw [t3 z hz]; decide⟩
    rw [show tlD L fl i = dT d fl by unfold tlD; rw [hd']]
    exact t2
  have hwC : wC S ρ dp wl [] 0 [] := ⟨hw, fun z hz => by rw [ls0_F hw hz]; exact hρw, rfl, fun j k p hj => absurd (get_lt hj) (Nat.not_lt_zero j), id, fun j p x hj => absurd (get_lt hj) (Nat.not_lt_zero j)⟩
  refine q_readTexts hfl hT hwl hwC hlen hL (fun i => (tlD_ok hok fl i).1) (fun i => (tlD_ok hok fl i).2) hdp hm hs (fun T ρ2 ws m wp s hρ2 hO hD => ?_)
  refine h T (tgR T ρ2) wp ⟨sub_wk s (fun a _ e => by rw [e]; decide), fun a ha hn => ?_⟩ ?_ hO (fun a ha e => ⟨s, ?_⟩)
  · have e := hρ2 a ha
    have n1 : ρ2 a ≠ 81 := fun z => hn (by rw [← e, z]; decide)
    have n2 : ρ2 a ≠ 84 := fun z => hn (by rw [← e, z]; decide)
    unfold tgR
    rw [if_neg n1, if_neg n2, e]
  · obtain ⟨d1, d2, d3, d4⟩ := hD
    have k5 : ∀ {a : Nat}, ρ2 a = 81 → cK T a ≠ 5 → tgR T ρ2 a = 8 := fun e hk => by
      unfold tgR
      rw [if_pos e, if_neg hk]
    refine ⟨ws, m, d1, fun z hz => k5 (d2 z hz) ?_, d3, fun j p y hp hy => ?_⟩
    · obtain ⟨l1, -, -, -, -, -, c, hc, hx⟩ := d1
      rcases hz with w | ⟨w, w2⟩
      · rw [w, l1.2]; decide
      · obtain rfl : c = z := Option.some.inj (hc.symm.trans w)
        rcases hx with hx | hx
        · exact absurd hx.1 w2
        · rw [hx.2.2.1.2]; decide
    · obtain ⟨e1, e2⟩ := d4 j p y hp hy
      refine ⟨e1, ?_, fun c hc => k5 (e2 c (Or.inr hc)) ?_⟩
      · unfold tgR
        rw [if_pos (e2 p (Or.inl rfl)), if_pos e1.1.1.2]
      · obtain ⟨q1, q2, q3, c', c1, c2, -⟩ := e1.1
        rw [c1] at hc
        rw [← Option.some.inj hc, c2.2]; decide
  · have e2 := hρ2 a ha
    unfold tgR
    rw [if_neg (by rw [e2, e]; decide), if_pos (e2.trans e)]
/-- both fields are read: the segment is there -/
theorem g_rts {X Y : Nat → Nat → Prop} {R : Nat → Nat → cS → Prop} {w0 w1 m1 s1 m2 s2 : Nat} (gN : sgN S ρ dp A n w0 w1 ds) (l0 : lsT S dp w0 5 [] 0) (l1 : lsT S dp w1 5 [] 0) (t0 : ρ w0 = 81) (t1 : ρ w1 = 84) (hlen : ds.length = L.length) (hd : ∀ (i D : Nat) (d : Dc), ds[i]? = some D → L[i]? = some d → gFz S ρ D d) (hok : ∀ d, d ∈ L → okD d) (hL : L.length ≤ 100) (hdp : dpO dp S) (hm1 : 300 * L.length + 2 ≤ m1) (hs1 : 3480 * L.length + 40 ≤ s1) (hm2 : 300 * L.length + 2 ≤ m2) (hs2 : 3480 * L.length + 40 ≤ s2) (hX : X m2 s2) (hY : Y m2 s2) (h : ∀ T ρ3, fr S T ρ ρ3 [81, 84] → gSg T ρ3 dp A n ds L → R m2 s2 T) : k_X8_readTexts (fun S10 => cA S10 A 8 ∧ ∃ a b : Nat, X a b ∧ (Y a b ∧ k_X8_readTexts (R a b) dp a b A (nI 1) S10)) dp m1 s1 A (nI 0) S := by
  obtain ⟨a1, a2, a3, ⟨dl, md, a4, a5, a6⟩, a7, a8⟩ := gN
  refine g_rt (L := L) (by decide) a1 a2 a4 a5 a6 a7 l0 t0 hlen hd hok hL hdp hm1 hs1 (fun T ρ3 wp0 f gw0 hO0 hz => ?_)
  have nA : ρ A ∉ [81, 84] := by rw [a2]; decide
  have A' := fr_A f a1
  have ρA' := fr_tg f a1.1 a2 (by decide)
  obtain ⟨b5, b6⟩ := fr_ls f (by decide) a5 a6
  obtain ⟨s81, hz1⟩ := hz w1 l1.1.1 t1
  have l1' : lsT T dp w1 5 [] 0 := lsT_sub s81 l1 (fun z hz2 => by rw [ls0_F l1 hz2, t1]; decide)
  refine ⟨A', m2, s2, hX, hY, g_rt (L := L) (by decide) A' ρA' ((fr_cr f a1 nA).trans a4) b5 b6 ((fr_cr f a1 nA).trans a8) l1' hz1 hlen (fun i D d h1 h2 => gFz_fr f (by decide) (hd i D d h1 h2)) hok hL dp_O hm2 hs2 (fun U ρ4 wp1 f2 gw1 hO1 _ => ?_)⟩
  have nA' : ρ3 A ∉ [81, 84] := by rw [ρA']; decide
  have fAll : fr S U ρ ρ4 [81, 84] := by
    refine fr_tr f f2 (fun a ha hin => ?_)
    by_cases c : ρ a ∈ [81, 84]
    · exact c
    · rw [f.2 a ha c] at hin; exact hin
  obtain ⟨c5, c6⟩ := fr_ls f2 (by decide) b5 b6
  have rA : ∀ q, cr U q A = cr S q A := fun q => (fr_cr f2 A' nA').trans (fr_cr f a1 nA)
  refine h U ρ4 fAll ⟨⟨fr_A f2 A', (fr_ci f2 A' nA').trans ((fr_ci f a1 nA).trans a3), hlen, ⟨dl, md, (rA _).trans a4, c5⟩, fun i D d h1 h2 => ?_⟩, fr_tg f2 A'.1 ρA' (by decide), fun c z hc hz2 => ?_, fun i D d h1 h2 => gFz_fr fAll (by decide) (hd i D d h1 h2), hok, hL, fun fl hfl => ?_⟩
  · obtain ⟨g1, -, g3, -⟩ := gFz_fr fAll (by decide) (hd i D d h1 h2)
    exact ⟨g1, g3, (hok d (List.mem_of_getElem? h2)).1⟩
  · rw [rA, a4] at hc
    exact c6 z (Option.some.inj hc ▸ hz2)
  · rcases (show fl = 0 ∨ fl = 1 by omega) with rfl | rfl
    · exact ⟨w0, wp0, (rA _).trans a7, gWd_fr (fr_fk f2 (by decide)) (by decide) gw0, hO0⟩
    · exact ⟨w1, wp1, (rA _).trans a8, gw1, hO1⟩
/-- names of segments may change where they don't count -/
theorem gVw_ext {so so' : Nat → Nat} {sd sd' : Nat → List Nat} {sg sg' : Nat → List Dc} {τl τh V : Nat} {ids : List Nat} {lv : Nat → Nat → Bool} (he : ∀ m, m ∈ ids → so' m = so m ∧ sd' m = sd m ∧ sg' m = sg m) (g : gVw S ρ dp so sd sg τl τh V ids lv) : gVw S ρ dp so' sd' sg' τl τh V ids lv := by
  obtain ⟨hl, m, hs, ⟨g1, g2, g3, g4, g5⟩, r⟩ := g
  refine ⟨hl, m, hs, ⟨g1, g2, g3, g4, fun i y n hi hn => ?_⟩, r⟩
  obtain ⟨e1, e2, e3⟩ := he n (List.mem_of_getElem? hn)
  rw [e1, e2, e3]
  exact g5 i y n hi hn
theorem gSegs_new {so : Nat → Nat} {sd : Nat → List Nat} {sg : Nat → List Dc} (g : gSegs S ρ dp so sd sg n) (gn : gSg S ρ dp A n ds L) : gSegs S ρ dp (upR so n A) (upR sd n ds) (upR sg n L) (n + 1) := by
  intro k hk
  rcases Nat.lt_or_ge k n with z | z
  · rw [upR_n (show k ≠ n by omega), upR_n (show k ≠ n by omega), upR_n (show k ≠ n by omega)]
    exact g k z
  · obtain rfl : k = n := by omega
    rw [upR_s, upR_s, upR_s]
    exact gn
end RW2
