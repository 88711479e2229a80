/-! queries: groups, new queries -/
section QV
variable {S T U : cS} {ρ ρ' : Nat → Nat} {dp τ κ q m pn : Nat} {M : List Nat} {nd : Nat → Nd} {st : Nat → Nat} {fl : Nat → Bool}
set_option maxHeartbeats 1000000 in
/-- a group is put -/
theorem q_putGroup {Q : Int32 → cS → Prop} {S0 : cS} {ρ0 : Nat → Nat} {mc ms p : Nat} {d : Nd} (g : gQz S0 ρ0 dp 13 12 q m nd pn st fl) (f : fr S0 S ρ0 ρ []) (hp : p ∉ cL S0) (hn : ndT S ρ 12 p d false) (hlf : nLf d = false) (hpc : nP d ≤ pn) (hpc1 : 1 ≤ nP d) (hpn : pn ≤ 8) (hm48 : m ≤ 47) (hdp : dpO dp S) (hm : 1 ≤ mc) (hs : 130 ≤ ms)
    (h : ∀ T ρ', fr S T ρ ρ' [13] → (∀ a, a ∈ cL S → ρ' a = ρ a) → gQz T ρ' dp 13 12 q (m + 1) (upR nd m d) (pn - (nP d - 1)) st (upR fl m false) → Q (nI (pn - (nP d - 1))) T) : k_X6_putGroup Q dp mc ms q p S := by
  have h18f : ∀ a, a ∈ cL S0 → ρ0 a = 18 → ρ a = 18 := fun a ha e => fr_tg f ha e (by simp)
  obtain ⟨G1, G2, G3, ⟨nl, ws, wm, ll, ls, lm, ⟨N1, N2, N3, N4, N5, N6, N7, N8⟩, ⟨L1, L2, L3, L4, L5, L6⟩, HD⟩, ⟨a, A1, A2, A3, A4, A5⟩, ⟨b, B1, B2, B3, B4⟩⟩ := id g
  have hpw : p ∉ ws := fun hin => hp (N2.2.2.2.2.2.1 p hin).1
  have rr0 : ∀ p, cr S p q = cr S0 p q := fun p => fr_cr f G1 (by simp)
  obtain ⟨n2, n3⟩ := fr_ls f (by simp) N2 N3
  obtain ⟨l2, l3⟩ := fr_ls f (by simp) L2 L3
  have g1 := fr_A f G1
  have g2 : ρ q = 13 := fr_tg f G1.1 G2 (by simp)
  have g3 : ci S 195 q = nI pn := (fr_ci f G1 (by simp)).trans G3
  have a2 := fr_A f A2
  have a4 : ρ a = 13 := fr_tg f A2.1 A4 (by simp)
  have a5 : ∀ j, j < pn → cI S a j = nI (st j) := by rw [sub_cI f.1 A2 (by simp)]; exact A5
  have n8 : ∀ (k p : Nat), ws[k]? = some p → ndT S ρ 12 p (nd k) (fl k) := fun k p hk => ndT_fr f (by simp) h18f (N8 k p hk)
  have hd : ∀ z, lsF S dp nl z → ¬ lsF S dp ll z := fun z hz => by
    rw [lsF_eq f.1 N2 (by simp)] at hz
    rw [lsF_eq f.1 L2 (by simp)]
    exact HD z hz
  obtain ⟨z1, z2, z3, z4, z5⟩ := gwL_b n2.2.2.1 N4 N5 (by omega) (by omega)
  have pA := hn.1
  have p132 : ci S 132 p = nI (nP d) := hn.2.2.1.2.2.2.2.1
  unfold k_X6_putGroup
  refine ⟨pA, g1, ?_⟩
  rw [g3, p132]
  refine pk_lt pn (nP d) (fun z => absurd z (by omega)) (fun _ => ⟨g1, pA, g1, fun S1 e1 => ?_⟩)
  rw [pk_sub hpc1, pk_sub (show nP d - 1 ≤ pn by omega)] at e1
  have s1 : cSub S S1 (fun z => z = q) := e1 ▸ sub_Si rfl
  have q1 := sub_A1 s1 g1
  have r1 : ∀ x y, cr S1 x y = cr S x y := fun x y => by rw [e1]; rfl
  have f1 : fr S S1 ρ ρ [13] := ⟨sub_wk s1 (fun z _ hz => by rw [hz, g2]; decide), fun _ _ _ => rfl⟩
  have n1' : lsT S1 dp nl 4 ws wm := lsT_sub s1 n2 (fun z hz => ls_nk n2 hz g1 (by decide) (by decide))
  have l1' : lsT S1 dp ll 4 ls lm := lsT_sub s1 l2 (fun z hz => ls_nk l2 hz g1 (by decide) (by decide))
  have F1 : ∀ x z, lsF S1 dp x z ↔ lsF S dp x z := fun x z => by unfold lsF; rw [r1]
  have p1 : cA S1 p 4 := fr_A f1 pA
  refine ⟨q1, nl, (r1 _ _).trans ((rr0 _).trans N1), n1'.1, 1, 130, by omega, by omega, q_ladd dp_O n1' z5 p1 z1 z2 (fun T v t => ?_)⟩
  obtain ⟨ρ1, hρ1⟩ : ∃ r, r = rtg S1 id ρ 13 := ⟨_, rfl⟩
  have f2 : fr S1 T ρ ρ1 [13] := ⟨sub_wk v.1 (fun z _ hz => by rw [n3 z ((F1 _ _).mp hz)]; decide), fun z hz _ => by rw [hρ1]; exact rtg_o hz⟩
  have fAll : fr S T ρ ρ1 [13] := fr_mix f1 f2
  have inS : ∀ {z}, z ∈ cL S → z ∈ cL S1 := fun hz => (s1 _ hz).1.1
  have tS : ∀ z, z ∈ cL S → ρ1 z = ρ z := fun z hz => by rw [hρ1]; exact rtg_o (inS hz)
  have q2 := fr_A f2 q1
  have nq : ¬ lsF S1 dp nl q := fun hz => ls_nk n1' hz q1 (by decide) (by decide) rfl
  have r2 : ∀ x, cr T x q = cr S x q := fun x => (sub_cr v.1 q1 nq).trans (r1 x q)
  have c2 : ci T 195 q = nI (pn - (nP d - 1)) := (sub_ci v.1 q1 nq).trans (hi_Si_s e1)
  have nll : ¬ lsF S1 dp nl ll := fun hz => hd ll ((F1 _ _).mp hz) (Or.inl rfl)
  have lT : lsT T dp ll 4 ls lm := lsT_sub v.1 l1' (fun z hz hz2 => hd z ((F1 _ _).mp hz2) ((F1 _ _).mp hz))
  have FT : ∀ z, lsF T dp ll z ↔ lsF S dp ll z := fun z => (lsF_eq v.1 l1' nll).trans (F1 _ _)
  have h18 : ∀ z, z ∈ cL S → ρ z = 18 → ρ1 z = 18 := fun z hz e => (tS z hz).trans e
  have lastG : ∀ {k y : Nat}, (ws ++ [p])[k]? = some y → (k < m ∧ ws[k]? = some y) ∨ (k = m ∧ y = p) := fun {k y} hk => by
    rcases app1_get.mp hk with h | ⟨h, e⟩
    · exact Or.inl ⟨by have := get_lt h; omega, h⟩
    · exact Or.inr ⟨by omega, e⟩
  unfold k_X6_putGroup_35
  rw [c2]
  refine ⟨q2, ⟨by omega, by omega⟩, h T ρ1 fAll tS ⟨q2, (tS q g1.1).trans g2, c2, ⟨nl, ws ++ [p], _, ll, ls, lm, ⟨(r2 _).trans ((rr0 _).trans N1), t, fun z hz => ?_, z3, z4, by rw [List.length_append, N6]; rfl, fun j k y hj hk => ?_, fun k y hk => ?_⟩, ⟨(r2 _).trans ((rr0 _).trans L1), lT, fun z hz => ?_, L4, by omega, ?_⟩, fun z hz hz2 => ?_⟩, ⟨a, (r2 _).trans ((rr0 _).trans A1), fr_A fAll a2, (sub_cn fAll.1 a2).trans ((sub_cn f.1 A2).trans A3), (tS a a2.1).trans a4, fun j hj => ?_⟩, ⟨b, (r2 _).trans ((rr0 _).trans B1), fr_A fAll (fr_A f B2), (sub_cn fAll.1 (fr_A f B2)).trans ((sub_cn f.1 B2).trans B3), (tS b (fr_A f B2).1).trans (h18f b B2.1 B4)⟩⟩⟩
  · rcases v.2 z hz with w | w
    · have w' := (F1 _ _).mp w
      exact (tS z (lsF_in n2 w')).trans (n3 z w')
    · rw [hρ1]; exact rtg_n w
  · rcases lastG hj with ⟨h1, h2⟩ | ⟨h1, h2⟩
    · rcases lastG hk with ⟨k1, k2⟩ | ⟨k1, k2⟩
      · exact N7 j k y h2 k2
      · exact absurd (k2 ▸ List.mem_of_getElem? h2) hpw
    · rcases lastG hk with ⟨k1, k2⟩ | ⟨k1, k2⟩
      · exact absurd (h2 ▸ List.mem_of_getElem? k2) hpw
      · omega
  · rcases lastG hk with ⟨h1, h2⟩ | ⟨h1, h2⟩
    · rw [upR_n (show k ≠ m by omega), upR_n (show k ≠ m by omega)]
      exact ndT_fr fAll (by decide) h18 (n8 k y h2)
    · rw [h1, h2, upR_s, upR_s]
      exact ndT_fr fAll (by decide) h18 hn
  · have w' := (FT z).mp hz
    exact (tS z (lsF_in l2 w')).trans (l3 z w')
  · rw [lfI, upR_s, hlf, if_neg (by decide), List.append_nil, lfI_ext (nd' := nd) (fun j hj => upR_n (show j ≠ m by omega))]
    exact parL_imp (fun p' k hk => app1_get.mpr (Or.inl hk)) L6
  · have w' := (FT z).mp hz2
    rcases v.2 z hz with u | u
    · exact hd z ((F1 _ _).mp u) w'
    · exact u (inS (lsF_in l2 w'))
  · have a1A := sub_A1 s1 a2
    rw [sub_cI v.1 a1A (fun hz => ls_nk n1' hz a1A (by decide) (by decide) rfl), sub_cI s1 a2 (cA_ne a2 g1 (by decide))]
    exact a5 j (by omega)
/-- the last part's nodes are set aside -/
theorem ndT_133 {p p' : Nat} {d : Nd} {b : Bool} (e : T = cSi S 133 p (bI true)) (hA : cA S p 4) (g : ndT S ρ κ p' d b) : ndT T ρ κ p' d (if p' = p then true else b) := by
  obtain ⟨g1, g2, ⟨i1, i2, i3, i4, i5, i6⟩, gw, ⟨a, a1, a2, a3, a4, a5⟩, ⟨c, c1, c2, c3, c4, c5⟩, ⟨u, u1, u2, u3, u4, u5⟩, ⟨v, v1, v2, v3, v4⟩⟩ := g
  subst e
  refine ⟨g1, g2, ⟨(cSi_nq (by decide)).trans i1, (cSi_nq (by decide)).trans i2, (cSi_nq (by decide)).trans i3, (cSi_nq (by decide)).trans i4, (cSi_nq (by decide)).trans i5, ?_⟩, gw, ⟨a, a1, a2, a3, a4, a5⟩, ⟨c, c1, c2, c3, c4, c5⟩, ⟨u, u1, u2, u3, u4, u5⟩, ⟨v, v1, v2, v3, v4⟩⟩
  by_cases c : p' = p
  · rw [if_pos c, c]; exact cSi_at
  · rw [if_neg c, cSi_na c]; exact i6
theorem q_setLastAside {Q : cS → Prop} (g : gQz S ρ dp 13 12 q m nd pn st fl) (hpn : 1 ≤ pn) (hpn8 : pn ≤ 8) (hst : st (pn - 1) ≤ m) (hm : m ≤ 48) (h : ∀ T, fr S T ρ ρ [12] → gQz T ρ dp 13 12 q m nd pn st (fun j => if st (pn - 1) ≤ j ∧ j < m then true else fl j) → Q T) : k_X6_setLastAside Q dp q S := by
  obtain ⟨g1, g2, g3, ⟨nl, ws, wm, ll, ls, lm, ⟨n1, n2, n3, n4, n5, n6, n7, n8⟩, ⟨l1, l2, l3, l4, l5, l6⟩, hd⟩, ⟨a, a1, a2, a3, a4, a5⟩, hb⟩ := id g
  unfold k_X6_setLastAside
  rw [g3]
  refine ⟨g1, pk_lt pn 1 (fun z => absurd z (by omega)) (fun _ => ⟨g1, g1, a, a1, a2, ?_⟩)⟩
  rw [a3]
  refine pk_le pn 8 (fun _ => ⟨g1, a, a1, g1, ?_⟩) (fun z => absurd z (by omega))
  rw [pk_sub hpn, nI_clamp (show pn - 1 < 2 ^ 31 by omega), a5 (pn - 1) (by omega), if_neg (show ¬ nI (st (pn - 1)) < nI 0 from nI_pos (by omega))]
  refine ⟨cX_mk a2 a3 (by decide) (show pn - 1 < 8 by omega) rfl, ?_⟩
  rintro _ rfl
  unfold k_X6_setLastAside_37L
  refine lfp_cnt (m - st (pn - 1)) (fun c y => ∃ S', fr S S' ρ ρ [12] ∧ gQz S' ρ dp 13 12 q m nd pn st (fun j => if st (pn - 1) ≤ j ∧ j < st (pn - 1) + c then true else fl j) ∧ y = (q, nI (st (pn - 1) + c), S')) ?_ ⟨S, fr_rf, gQz_ext (fun _ _ => rfl) (fun k _ => if_neg (by omega)) (fun _ _ => rfl) g, rfl⟩
  rintro P c _ hc ⟨S', f', g', rfl⟩ ih
  show k_X6_setLastAside_37 Q dp _ q (nI (st (pn - 1) + c)) S'
  obtain ⟨h1, h2, h3, ⟨nl', ws', wm', ll', ls', lm', ⟨x1, x2, x3, x4, x5, x6, x7, x8⟩, ⟨y1, y2, y3, y4, y5, y6⟩, hd'⟩, ⟨a', w1, w2, w3, w4, w5⟩, ⟨b', u1, u2, u3, u4⟩⟩ := id g'
  unfold k_X6_setLastAside_37
  refine ⟨h1, nl', x1, x2.1, q_lsize x2 (pk_le ws'.length (st (pn - 1) + c) (fun z => ?_) (fun z => ?_))⟩
  · refine h S' f' (gQz_ext (fun _ _ => rfl) (fun k hk => ?_) (fun _ _ => rfl) g')
    have e : m = st (pn - 1) + c := by omega
    show (if st (pn - 1) ≤ k ∧ k < m then true else fl k) = (if st (pn - 1) ≤ k ∧ k < st (pn - 1) + c then true else fl k)
    rw [← e]
  · obtain ⟨p, hp⟩ := get_ex z
    have pA := (x8 _ p hp).1
    have pρ := (x8 _ p hp).2.1
    refine ⟨h1, nl', x1, x2.1, q_lget x2 hp ⟨pA, pA, fun T e => ?_⟩⟩
    rintro _ rfl
    rw [nI_add]
    have s : cSub S' T (fun z => z = p) := e ▸ sub_Si rfl
    have f : fr S' T ρ ρ [12] := ⟨sub_wk s (fun z _ hz => by rw [hz, pρ]; decide), fun _ _ _ => rfl⟩
    have r : ∀ x y, cr T x y = cr S' x y := fun x y => by rw [e]; rfl
    have F : ∀ x z, lsF T dp x z ↔ lsF S' dp x z := fun x z => by unfold lsF; rw [r]
    have iq : ci T 195 q = ci S' 195 q := by rw [e]; exact cSi_nq (by decide)
    refine ih _ (by omega) ⟨T, fr_mix f' f, ⟨sub_A1 s h1, h2, iq.trans h3, ⟨nl', ws', wm', ll', ls', lm', ⟨(r _ _).trans x1, lsT_sub s x2 (fun z hz => ls_nk x2 hz pA (by decide) (by decide)), fun z hz => x3 z ((F _ _).mp hz), x4, x5, x6, x7, fun k y hk => ?_⟩, ⟨(r _ _).trans y1, lsT_sub s y2 (fun z hz => ls_nk y2 hz pA (by decide) (by decide)), fun z hz => y3 z ((F _ _).mp hz), y4, y5, y6⟩, fun z hz hz2 => hd' z ((F _ _).mp hz) ((F _ _).mp hz2)⟩, ⟨a', (r _ _).trans w1, sub_A1 s w2, (sub_cn s w2).trans w3, w4, by rw [e]; exact w5⟩, ⟨b', (r _ _).trans u1, sub_A1 s u2, (sub_cn s u2).trans u3, u4⟩⟩, by rw [Nat.add_assoc]⟩
    have h5 := ndT_133 e pA (x8 k y hk)
    have ev : (if y = p then true else (fun j => if st (pn - 1) ≤ j ∧ j < st (pn - 1) + c then true else fl j) k) = (if st (pn - 1) ≤ k ∧ k < st (pn - 1) + (c + 1) then true else fl k) := by
      by_cases c1 : y = p
      · have : k = st (pn - 1) + c := x7 k _ y hk (by rw [c1]; exact hp)
        rw [if_pos c1, if_pos (by omega)]
      · rw [if_neg c1]
        have : k ≠ st (pn - 1) + c := fun e2 => c1 (by rw [e2, hp] at hk; exact (Option.some.inj hk).symm)
        show (if st (pn - 1) ≤ k ∧ k < st (pn - 1) + c then true else fl k) = _
        by_cases c2 : st (pn - 1) ≤ k ∧ k < st (pn - 1) + c
        · rw [if_pos c2, if_pos (by omega)]
        · rw [if_neg c2, if_neg (by omega)]
    rw [ev] at h5
    exact h5
/-- tags of a new query -/
def qtg (S : cS) (ρ : Nat → Nat) (e : Nat) : Nat → Nat := fun z => if z ∈ cL S then ρ z else if z = e then 18 else 13
theorem qtg_o {e z : Nat} (h : z ∈ cL S) : qtg S ρ e z = ρ z := if_pos h
theorem qtg_n {e z : Nat} (h : z ∉ cL S) (h2 : z ≠ e) : qtg S ρ e z = 13 := by unfold qtg; rw [if_neg h, if_neg h2]
theorem qtg_e {e : Nat} (h : e ∉ cL S) : qtg S ρ e e = 18 := by unfold qtg; rw [if_neg h, if_pos rfl]
theorem q_qInit {Q : cS → Prop} {S2 : cS} {mc ms : Nat} (hq : q ∉ cL S) (e2 : S2 = cNew S q 6) (hdp : dpO dp S) (hm : 4 ≤ mc) (hs : 22 ≤ ms) (h : ∀ T b, cSub S T (fun _ => False) → b ∉ cL S → (∀ ρ' : Nat → Nat, (∀ a, a ∉ cL S → a ≠ b → ρ' a = 13) → ρ' b = 18 → ∀ nd : Nat → Nd, gQy T ρ' dp 13 12 q 0 nd) → Q T) : k_X6_init Q dp mc ms q S2 := by
  have s2 : cSub S S2 (fun _ => False) := e2 ▸ sub_N hq
  have q2 : cA S2 q 6 := ⟨hm_No e2, hk_No e2⟩
  unfold k_X6_init
  refine ⟨⟨by omega, by omega⟩, fun q1 hq1 S3 e3 => ⟨⟨by omega, by omega⟩, q_newList (kk := 4) hq1 e3 dp_O (Or.inr (Or.inr (Or.inl rfl))) (fun S4 s4 l4 => ?_)⟩⟩
  have q4 := sub_A1 s4 q2
  refine ⟨q4, fun S5 e5 => ⟨⟨by omega, by omega⟩, fun q5 hq5 S6 e6 => ⟨⟨by omega, by omega⟩, ?_⟩⟩⟩
  have u5 : cSub S4 S5 (fun z => z = q) := e5 ▸ sub_Sr rfl
  have dp5 : dpO dp S5 := dp_O
  refine q_newList (kk := 4) hq5 e6 dp5 (Or.inr (Or.inr (Or.inl rfl))) (fun S7 s7 l7 => ?_)
  have q7 := sub_A1 s7 (sub_A1 u5 q4)
  refine ⟨q7, fun S8 e8 => ⟨8, rfl, by decide, by omega, by omega, fun a ha S9 e9 => ?_⟩⟩
  have u8 : cSub S7 S8 (fun z => z = q) := e8 ▸ sub_Sr rfl
  have u9 : cSub S8 S9 (fun z => z = q) := e9 ▸ sub_A ha
  have q9 := sub_A1 u9 (sub_A1 u8 q7)
  refine ⟨q9, fun S10 e10 => ?_⟩
  have u10 : cSub S9 S10 (fun z => z = q) := e10 ▸ sub_Sr rfl
  refine ⟨sub_A1 u10 q9, fun S11 e11 => ⟨8, rfl, by decide, by omega, by omega, fun b hb S12 e12 => ?_⟩⟩
  have u11 : cSub S10 S11 (fun z => z = q) := e11 ▸ sub_Si rfl
  have u12 : cSub S11 S12 (fun z => z = q) := e12 ▸ sub_A hb
  have q12 := sub_A1 u12 (sub_A1 u11 (sub_A1 u10 q9))
  refine ⟨q12, fun S13 e13 => ⟨⟨by omega, by omega⟩, ?_⟩⟩
  have u13 : cSub S12 S13 (fun z => z = q) := e13 ▸ sub_Sr rfl
  have w12 := sub_tr u12 u13 (fun _ _ z => z)
  have w11 := sub_tr u11 w12 (fun _ _ z => z)
  have w10 := sub_tr u10 w11 (fun _ _ z => z)
  have w9 := sub_tr u9 w10 (fun _ _ z => z)
  have w8 := sub_tr u8 w9 (fun _ _ z => z)
  have w7 : cSub S5 S13 (fun z => z = q) := sub_tr (sub_wk s7 (fun _ _ z => z.elim)) w8 (fun _ _ z => z)
  have w5 := sub_tr u5 w7 (fun _ _ z => z)
  have w4 : cSub S2 S13 (fun z => z = q) := sub_tr (sub_wk s4 (fun _ _ z => z.elim)) w5 (fun _ _ z => z)
  have s0 : cSub S S13 (fun _ => False) := sub_tr s2 w4 (fun x hx z => absurd z (cm_nq hq hx))
  have in2 : ∀ {z}, z ∈ cL S → z ∈ cL S2 := fun hz => (s2 _ hz).1.1
  have n1 : q1 ∉ cL S := fun z => hq1 (in2 z)
  have in5 : ∀ {z}, z ∈ cL S2 → z ∈ cL S5 := fun hz => (u5 _ (s4 _ hz).1.1).1.1
  have n5 : q5 ∉ cL S := fun z => hq5 (in5 (in2 z))
  have in8 : ∀ {z}, z ∈ cL S5 → z ∈ cL S8 := fun hz => (u8 _ (s7 _ hz).1.1).1.1
  have na : a ∉ cL S := fun z => ha (in8 (in5 (in2 z)))
  have in11 : ∀ {z}, z ∈ cL S8 → z ∈ cL S11 := fun hz => (u11 _ (u10 _ (u9 _ hz).1.1).1.1).1.1
  have nb : b ∉ cL S := fun z => hb (in11 (in8 (in5 (in2 z))))
  have i1 : q1 ∈ cL S5 := (u5 _ l4.1.1).1.1
  have i5 : q5 ∈ cL S8 := (u8 _ l7.1.1).1.1
  have ia : a ∈ cL S11 := (u11 _ (u10 _ (hm_Ao e9)).1.1).1.1
  have d15 : q1 ≠ q5 := cm_nq hq5 i1
  have bq : q ≠ b := cm_nq hb (in11 (in8 (in5 q2.1)))
  have b1 : q1 ≠ b := cm_nq hb (in11 (in8 i1))
  have b5 : q5 ≠ b := cm_nq hb (in11 i5)
  have ba : a ≠ b := cm_nq hb ia
  have aA : cA S9 a 14 := ⟨hm_Ao e9, hk_Ao e9⟩
  have bA : cA S12 b 14 := ⟨hm_Ao e12, hk_Ao e12⟩
  have l1 : lsT S13 dp q1 4 [] 0 := lsT_sub w5 l4 (fun z hz => by rw [ls0_F l4 hz]; exact cA_ne l4.1 q4 (by decide))
  have l5 : lsT S13 dp q5 4 [] 0 := lsT_sub w8 l7 (fun z hz => by rw [ls0_F l7 hz]; exact cA_ne l7.1 q7 (by decide))
  have nq5 : ¬ q = q5 := cm_nq hq5 (in5 q2.1)
  have r192 : cr S13 192 q = some q1 := hr_Sr_q e13 (by decide) (hr_A e12 (hr_Si e11 (hr_Sr_q e10 (by decide) (hr_A e9 (hr_Sr_q e8 (by decide) ((sub_cr s7 (sub_A1 u5 q4) (fun z => z)).trans (hr_Sr_s e5)))))))
  have r193 : cr S13 193 q = some q5 := hr_Sr_q e13 (by decide) (hr_A e12 (hr_Si e11 (hr_Sr_q e10 (by decide) (hr_A e9 (hr_Sr_s e8)))))
  have r194 : cr S13 194 q = some a := hr_Sr_q e13 (by decide) (hr_A e12 (hr_Si e11 (hr_Sr_s e10)))
  have r196 : cr S13 196 q = some b := hr_Sr_s e13
  have i195 : ci S13 195 q = nI 0 := hi_Sr e13 (hi_A e12 (hi_Si_s e11))
  refine h S13 b s0 nb (fun ρ' hn he nd => ⟨sub_A1 w4 q2, hn q hq bq, i195, ⟨q1, [], 0, q5, [], 0, ⟨r192, l1, fun z hz => by rw [ls0_F l1 hz]; exact hn q1 n1 b1, Or.inl rfl, by decide, rfl, fun j k p hj => absurd (get_lt hj) (Nat.not_lt_zero j), fun k p hk => absurd (get_lt hk) (Nat.not_lt_zero k)⟩, ⟨r193, l5, fun z hz => by rw [ls0_F l5 hz]; exact hn q5 n5 b5, Or.inl rfl, by decide, trivial⟩, fun z hz hz2 => d15 ((ls0_F l1 hz).symm.trans (ls0_F l5 hz2))⟩, ⟨a, r194, sub_A1 w10 aA, (sub_cn w10 aA).trans (hn_Ao e9), hn a na ba, fun j hj => absurd hj (Nat.not_lt_zero j)⟩, ⟨b, r196, sub_A1 u13 bA, (sub_cn u13 bA).trans (hn_Ao e12), he⟩⟩)
end QV
