/-! the reference: whether a token fits a leaf; phrases, nearness -/
theorem tdI_N {d : Nd} {w : Nat} (h : w < 2 ^ 63) : tdI d (lN w) = tdB d w := by
  unfold tdI
  rw [lN_nat h]
/-- whether a stem fits a leaf of words -/
noncomputable def ftB (l : LGt) (d : Nd) (s : Int64) : Bool := (tdI d s || anyB (fun i => decide (l.1 i = s) && tdI d (l.2.1 i)) l.2.2.1) && !l.2.2.2 s
/-- seconds are words -/
def scW (l : LGt) : Prop := ∀ i, i < l.2.2.1 → ∃ w, w < 37 ^ 12 ∧ l.2.1 i = lN w
section FT
variable {v v' : Nat → Int32} {f f' : Nat → Nat → Int32} {g g' : Nat → Nat → Int64} {l : LGt} {w o : Nat} {d : Nd}
theorem rNd_S2 (h : rS2 f f') (hN : rNd f g o d) : rNd f' g o d := by
  refine rNd_cp hN ?_ ?_ ?_ ?_ ?_ (fun _ _ => rfl) (fun i _ => ?_) (fun i _ => ?_)
  · rw [h 40 (by decide) (by decide)]
  · rw [h 41 (by decide) (by decide)]
  · rw [h 42 (by decide) (by decide)]
  · rw [h 43 (by decide) (by decide)]
  · rw [h 44 (by decide) (by decide)]
  · rw [h 46 (by decide) (by decide)]
  · rw [h 47 (by decide) (by decide)]
theorem rS2_tr {f'' : Nat → Nat → Int32} (h : rS2 f f') (h2 : rS2 f' f'') : rS2 f f'' := fun n a b => (h2 n a b).trans (h n a b)
theorem p_fitsWord {Q : QI} (hN : rNd f g o d) (hd : tlOk d) (ho : o < 1968) (hw : w < 2 ^ 63) (hp : mPow g) (h : ∀ f', rS2 f f' → Q (bI (tdB d w)) v f' g) : r_fitsWord Q (lN w) (nI o) v f g := by
  obtain ⟨⟨n1, n1'⟩, n2, n3, n4, n5, n6, n7, n8, n9⟩ := hN
  obtain ⟨k3, k5, l20, hW, ⟨p1, p2⟩, hT⟩ := hd
  have oin : vp_in (nI o) 1968 := pk_in o 1968 ho
  have oc : (nI o).toNatClampNeg = o := nI_clamp (by omega)
  unfold r_fitsWord
  rw [pk_mul, nI_clamp (show 6 * o < 2 ^ 31 by omega), oc, n1]
  refine ⟨pk_in (6 * o) 11808 (by omega), ?_⟩
  intro x4 ex4
  refine ⟨oin, w_ne (nK d) 3 (fun c3 => ⟨oin, w_ne (nK d) 4 (fun c4 => ?_) (fun c4 => ?_)⟩) (fun c3 => ?_)⟩
  · have hk5 : nK d = 5 := by omega
    rw [ex4, n8 (Or.inr hk5)]
    refine p_edits hw (by omega) hp (fun f1 s1 => ⟨oin, ?_⟩)
    have ham : amN d = nL d := by unfold amN; rw [if_neg c4, if_neg (by omega)]
    have fin := h f1 s1
    unfold tdB at fin
    rw [if_pos hk5] at fin
    have e12 := (edR_ge (a := dg w) (b := dg (nW d)) (lnW w) (lnW (nW d))).2.2
    have l1 := lnW_le w
    have l2 := lnW_le (nW d)
    rw [s1 42 (by decide) (by decide), n3, ham]
    refine pk_lt (nL d) (edR (dg w) (dg (nW d)) (lnW w) (lnW (nW d))) (fun z => ?_) (fun z => ?_)
    · rw [decide_eq_false (by omega)] at fin; exact fin
    · rw [decide_eq_true z] at fin; exact fin
  · have hpt : ptN d = nQ d := by unfold ptN; rw [if_neg c3, if_pos c4]
    have ham : amN d = (nQ d).length := by unfold amN; rw [if_pos c4]
    refine p_isLike (n := (nQ d).length) (q := ptA d) hw hp ho n6.2 (by rw [n3, ham]) (fun k hk => ?_) (fun f1 s1 => ⟨⟨_, rfl⟩, ?_⟩)
    · have e : (nQ d)[k]? = some (ptA d k) := by
        obtain ⟨y, hy⟩ := get_ex hk
        unfold ptA
        rw [hpt, List.getD_eq_getElem?_getD, hy]; rfl
      exact ⟨n9 c4 k _ e, p2 k (by rw [hpt]; exact hk)⟩
    · have fin := h f1 s1
      unfold tdB at fin
      rw [if_neg (by omega), hpt] at fin
      exact fin
  · rw [ex4, n8 (Or.inl c3)]
    refine p_begins hw (by omega) hp ⟨⟨_, rfl⟩, ?_⟩
    rw [← tdB_3 c3]
    exact h f (fun _ _ _ => rfl)
theorem p_fitsAt {Q : QI} {k fl p : Nat} {s : Int64} (hl : rLg v g l) (hS : scW l) (hN : rNd f g o d) (hd : tlOk d) (ho : o < 1968) (hk : k < 2424) (hf : fl < 2) (hpl : p < 20) (e : g 17 (40 * k + (20 * fl + p)) = s) (hs : ∃ w, w < 37 ^ 12 ∧ s = lN w) (hp : mPow g) (h : ∀ f', rS2 f f' → Q (bI (ftB l d s)) v f' g) : r_fitsAt Q (nI k) (nI fl) (nI p) (nI o) v f g := by
  obtain ⟨⟨l1, l2⟩, ⟨l3, l4⟩, -⟩ := id hl
  obtain ⟨ws, hws, rfl⟩ := hs
  unfold r_fitsAt
  rw [pk_mul, pk_mul, nI_add, nI_add, Nat.add_assoc, nI_clamp (show 40 * k + (20 * fl + p) < 2 ^ 31 by omega), e]
  refine ⟨pk_in (40 * k + (20 * fl + p)) 96960 (by omega), ?_⟩
  intro x5 ex5
  rw [ex5]
  refine p_isStopL hl (w_B0 (fun es => ?_) (fun es => ?_))
  · refine p_fitsWord hN hd ho (by omega) hp (fun f1 s1 => ?_)
    rw [← tdI_N (show ws < 2 ^ 63 by omega)]
    unfold r_fitsAt_42L
    refine lfp_cnt l.2.2.1 (fun j y => ∃ f2, rS2 f f2 ∧ y = (nI o, lN ws, bI (tdI d (lN ws) || anyB (fun i => decide (l.1 i = lN ws) && tdI d (l.2.1 i)) j), nI j, v, f2, g)) ?_ ⟨f1, s1, by
      show _ = (nI o, lN ws, bI (tdI d (lN ws) || false), nI 0, v, f1, g)
      rw [Bool.or_false]⟩
    rintro P j _ hj ⟨f2, s2, rfl⟩ ih
    show r_fitsAt_42 Q _ (nI o) (lN ws) (bI (tdI d (lN ws) || anyB (fun i => decide (l.1 i = lN ws) && tdI d (l.2.1 i)) j)) (nI j) v f2 g
    have step := anyB_s (fun i => decide (l.1 i = lN ws) && tdI d (l.2.1 i)) j
    unfold r_fitsAt_42
    rw [l3]
    refine pk_le l.2.2.1 j (fun z => ⟨⟨_, rfl⟩, ?_⟩) (fun z => ?_)
    · obtain rfl : j = l.2.2.1 := by omega
      have fin := h f2 s2
      unfold ftB at fin
      rw [es, Bool.not_false, Bool.and_true] at fin
      exact fin
    have go : ∀ (t : Bool) f3, rS2 f f3 → t = (tdI d (lN ws) || anyB (fun i => decide (l.1 i = lN ws) && tdI d (l.2.1 i)) (j + 1)) → r_fitsAt_90 Q (fun b0 b1 b2 b3 v f g => P (b0, b1, b2, b3, v, f, g)) (nI o) (lN ws) (nI j) (bI t) v f3 g := by
      intro t f3 s3 ht
      unfold r_fitsAt_90
      rintro _ rfl
      rw [nI_add, ht]
      exact ih _ z ⟨f3, s3, rfl⟩
    have jin : vp_in (nI j) 10 := pk_in j 10 (by omega)
    unfold r_fitsAt_89
    refine w_Bn (fun e2 => go true f2 s2 (by rw [step, ← Bool.or_assoc, e2]; rfl)) (fun e2 => ⟨jin, ?_⟩)
    rw [nI_clamp (show j < 2 ^ 31 by omega), l1, l2]
    obtain ⟨u, hu, eu⟩ := hS j z
    refine ⟨fun c1 => go false f2 s2 (by rw [step, ← Bool.or_assoc, e2, decide_eq_false c1]; rfl), fun c1 => ⟨jin, ?_⟩⟩
    rw [eu]
    refine p_fitsWord (rNd_S2 s2 hN) hd ho (by omega) hp (fun f3 s3 => ?_)
    rw [← tdI_N (show u < 2 ^ 63 by omega), ← eu]
    exact w_B0 (fun e3 => go false f3 (rS2_tr s2 s3) (by rw [step, ← Bool.or_assoc, e2, decide_eq_true c1, e3]; rfl)) (fun e3 => go true f3 (rS2_tr s2 s3) (by rw [step, ← Bool.or_assoc, e2, decide_eq_true c1, e3]; rfl))
  · have fin := h f (fun _ _ _ => rfl)
    unfold ftB at fin
    rw [es, Bool.not_true, Bool.and_false] at fin
    exact fin
/-- the places of a document in a field -/
def rPl (f : Nat → Nat → Int32) (g : Nat → Nat → Int64) (k fl K : Nat) (st : Nat → Int64) : Prop := (k < 2424 ∧ fl < 2) ∧ f 18 (2 * k + fl) = nI K ∧ K ≤ 20 ∧ (∀ q, g 17 (40 * k + (20 * fl + q)) = st q) ∧ ∀ q, q < K → ∃ w, w < 37 ^ 12 ∧ st q = lN w
variable {k fl K : Nat} {st : Nat → Int64}
theorem rPl_S2 (h : rS2 f f') (hP : rPl f g k fl K st) : rPl f' g k fl K st := by
  unfold rPl
  rw [h 18 (by decide) (by decide)]; exact hP
theorem p_hasAtM {Q : QI} {p : Nat} {c : Int64} (hl : rLg v g l) (hP : rPl f g k fl K st) (hp : p < K) (h : Q (bI ((pmk c (tkG l st K)).testBit p)) v f g) : r_hasAt Q (nI k) (nI fl) (nI p) c v f g := by
  obtain ⟨⟨h1, h2⟩, h3, h4, h5, -⟩ := hP
  refine p_hasAt hl h1 h2 (by omega) (h5 p) ?_
  rw [bit_hs, decide_eq_true hp, Bool.true_and] at h
  exact h
theorem tb_out {c : Int64} {p : Nat} (h : K ≤ p) : (pmk c (tkG l st K)).testBit p = false := by
  rw [bit_hs, decide_eq_false (by omega)]; rfl
theorem plN_some {m a b : Nat} (h1 : a ≤ b) (h2 : b < 20) (h3 : m.testBit b = true) (h4 : ∀ j, a ≤ j → j < b → m.testBit j = false) : plN m a = some b := by
  have e : fst0 (fun k => m.testBit (a + k)) (20 - a) = b - a := fst0_eq (fun j hj => h4 (a + j) (by omega) (by omega)) (by show m.testBit (a + (b - a)) = true; rw [show a + (b - a) = b by omega]; exact h3) (by omega)
  unfold plN
  rw [e, show a + (b - a) = b by omega, if_pos h2]
theorem plN_no {m a : Nat} (h4 : ∀ j, a ≤ j → j < 20 → m.testBit j = false) : plN m a = none := by
  have e : fst0 (fun k => m.testBit (a + k)) (20 - a) = 20 - a := fst0_all (fun j hj => h4 (a + j) (by omega) (by omega))
  unfold plN
  rw [e, if_neg (by omega)]
theorem tkC_get {T : List (Int64 × Nat)} {t : Nat} {x : Int64 × Nat} (hT : nT d = T) (hx : T[t]? = some x) : tkC d t = x.1 := by
  unfold tkC
  rw [hT, List.getD_eq_getElem?_getD, hx]; rfl
/-- tokens' places rise -/
def tkM (d : Nd) : Prop := ∀ (a b : Nat) (x y : Int64 × Nat), a < b → (nT d)[a]? = some x → (nT d)[b]? = some y → x.2 ≤ y.2
theorem gsN2_T (hM : tkM d) : ∀ i, i < (nT d).length → ∀ x y, (nT d)[0]? = some x → (nT d)[i]? = some y → y.2 = x.2 + gsN2 (gpT (nT d)) i := by
  intro i
  induction i with
  | zero =>
    intro _ x y hx hy
    rw [hx] at hy
    obtain rfl := Option.some.inj hy
    rfl
  | succ i ih =>
    intro hi x y hx hy
    obtain ⟨z, hz⟩ := get_ex (l := nT d) (k := i) (by omega)
    have h1 := ih (by omega) x z hx hz
    have h2 := hM i (i + 1) z y (by omega) hz hy
    have e : gpT (nT d) (i + 1) = y.2 - z.2 := by
      unfold gpT
      rw [if_neg (by omega), Nat.add_sub_cancel, List.getD_eq_getElem?_getD, List.getD_eq_getElem?_getD, hy, hz]; rfl
    rw [gsN2, e]
    omega
theorem p_isPhraseAt {Q : QI} {p : Nat} (hl : rLg v g l) (hP : rPl f g k fl K st) (hN : rNd f g o d) (hd : tkOk d) (hM : tkM d) (hfl : nF d = fl) (hk1 : nK d = 1) (hpl : ∀ x, x ∈ nT d → x.2 < 20) (ho : o < 1968) (hp : p < K) (h : Q (bI (cAt d (fun t => pmk (tkC d t) (tkG l st K)) p)) v f g) : r_isPhraseAt Q (nI k) (nI o) (nI p) v f g := by
  obtain ⟨⟨n1, n1'⟩, n2, n3, n4, n5, n6, n7, n8, n9⟩ := id hN
  obtain ⟨-, t1, t6, l20, -, g20⟩ := hd
  obtain ⟨⟨k24, fl2⟩, e18, K20, -, -⟩ := id hP
  obtain ⟨m, hm⟩ : ∃ m : Nat → Nat, m = fun t => pmk (tkC d t) (tkG l st K) := ⟨_, rfl⟩
  have mt : ∀ t, m t = pmk (tkC d t) (tkG l st K) := fun t => by rw [hm]
  have mout : ∀ t q, K ≤ q → (m t).testBit q = false := fun t q hq => by rw [mt]; exact tb_out hq
  rw [← hm] at h
  have oin : vp_in (nI o) 1968 := pk_in o 1968 ho
  have oc : (nI o).toNatClampNeg = o := nI_clamp (by omega)
  have e44 : f 44 o = nI (nT d).length := by rw [n5]; unfold mnN; rw [if_pos (by omega)]
  have e42 : f 42 o = nI (nL d) := by rw [n3]; unfold amN; rw [if_neg (by omega), if_neg (by omega)]
  have e41 : f 41 o = nI fl := by rw [n2 (by omega), hfl]
  have e46 : ∀ t x, (nT d)[t]? = some x → f 46 (6 * o + t) = nI x.2 ∧ g 45 (6 * o + t) = x.1 ∧ x.2 < 20 := fun t x hx => ⟨(n7 (by omega) t x hx).2, (n7 (by omega) t x hx).1, hpl x (List.mem_of_getElem? hx)⟩
  have cN : phL m (gpT (nT d)) p ((nT d).length - 1) = none → cAt d m p = false := fun e => by
    unfold cAt
    rw [if_neg (by omega), e]
  have cS : ∀ q, phL m (gpT (nT d)) p ((nT d).length - 1) = some q → cAt d m p = decide (q ≤ p + nL d + gsN2 (gpT (nT d)) ((nT d).length - 1)) := fun q e => by
    unfold cAt
    rw [if_neg (by omega), e]
  unfold r_isPhraseAt
  rw [oc, e41]
  refine ⟨oin, ?_⟩
  rintro _ rfl
  unfold r_isPhraseAt_14L
  refine lfp_cnt ((nT d).length - 1) (fun i y => ∃ q, phL m (gpT (nT d)) p i = some q ∧ p ≤ q ∧ q < 20 ∧ y = (nI k, nI o, nI p, nI fl, nI q, nI (i + 1), v, f, g)) ?_ ⟨p, rfl, Nat.le_refl p, by omega, rfl⟩
  rintro P i _ hi ⟨q, q1, q2, q3, rfl⟩ ih
  show r_isPhraseAt_14 Q _ (nI k) (nI o) (nI p) (nI fl) (nI q) (nI (i + 1)) v f g
  obtain ⟨x0, hx0⟩ := get_ex (l := nT d) (k := 0) (by omega)
  unfold r_isPhraseAt_14
  rw [oc, e44]
  refine ⟨oin, pk_le (nT d).length (i + 1) (fun z => ⟨oin, ?_⟩) (fun z => ?_)⟩
  · obtain rfl : i = (nT d).length - 1 := by omega
    obtain ⟨y, hy⟩ := get_ex (l := nT d) (k := (nT d).length - 1) (by omega)
    have gy := gsN2_T hM ((nT d).length - 1) (by omega) x0 y hx0 hy
    obtain ⟨a1, -, a2⟩ := e46 _ y hy
    obtain ⟨b1, -, b2⟩ := e46 0 x0 hx0
    rw [Nat.add_zero] at b1
    rw [pk_mul, nI_add, pk_sub (show 1 ≤ 6 * o + (nT d).length by omega), show 6 * o + (nT d).length - 1 = 6 * o + ((nT d).length - 1) by omega, nI_clamp (show 6 * o + ((nT d).length - 1) < 2 ^ 31 by omega), nI_clamp (show 6 * o < 2 ^ 31 by omega), a1, b1, e42, pk_sub (show x0.2 ≤ y.2 by omega), nI_add, pk_sub q2]
    refine ⟨pk_in (6 * o + ((nT d).length - 1)) 11808 (by omega), pk_in (6 * o) 11808 (by omega), oin, ?_⟩
    rintro _ rfl
    rw [cS q q1] at h
    refine pk_lt (y.2 - x0.2 + nL d) (q - p) (fun z2 => ?_) (fun z2 => ?_)
    · rw [decide_eq_false (by omega)] at h; exact h
    · rw [decide_eq_true (by omega)] at h; exact h
  · obtain ⟨x, hx⟩ := get_ex (l := nT d) (k := i) (by omega)
    obtain ⟨y, hy⟩ := get_ex (l := nT d) (k := i + 1) z
    have xy := hM i (i + 1) x y (by omega) hx hy
    obtain ⟨a1, -, a2⟩ := e46 _ x hx
    obtain ⟨b1, b1', b2⟩ := e46 _ y hy
    have gp : gpT (nT d) (i + 1) = y.2 - x.2 := by
      unfold gpT
      rw [if_neg (by omega), Nat.add_sub_cancel, List.getD_eq_getElem?_getD, List.getD_eq_getElem?_getD, hy, hx]; rfl
    have ph : phL m (gpT (nT d)) p (i + 1) = plN (m (i + 1)) (q + gpT (nT d) (i + 1)) := by rw [phL, q1]
    have cy : tkC d (i + 1) = y.1 := tkC_get rfl hy
    rw [pk_mul, nI_add (6 * o) (i + 1), pk_sub (show 1 ≤ 6 * o + (i + 1) by omega), show 6 * o + (i + 1) - 1 = 6 * o + i by omega, nI_clamp (show 6 * o + (i + 1) < 2 ^ 31 by omega), nI_clamp (show 6 * o + i < 2 ^ 31 by omega), a1, b1, nI_add q y.2, pk_sub (show x.2 ≤ q + y.2 by omega)]
    refine ⟨pk_in (6 * o + (i + 1)) 11808 (by omega), pk_in (6 * o + i) 11808 (by omega), ?_⟩
    rintro _ rfl
    obtain ⟨a0, ha0⟩ : ∃ a0, a0 = q + y.2 - x.2 := ⟨_, rfl⟩
    have ea : q + gpT (nT d) (i + 1) = a0 := by omega
    rw [ea] at ph
    rw [← ha0]
    have k2 : (nI (2 * k + fl)).toNatClampNeg = 2 * k + fl := nI_clamp (by omega)
    unfold r_isPhraseAt_57L
    refine lfp_ind (fun y' => ∃ a, a0 ≤ a ∧ a ≤ 40 ∧ (∀ j, a0 ≤ j → j < a → (m (i + 1)).testBit j = false) ∧ y' = (nI k, nI o, nI p, nI fl, nI (i + 1), nI a, v, f, g)) (fun y' => 64 - y'.2.2.2.2.2.1.toNatClampNeg) ?_ ⟨a0, Nat.le_refl _, by omega, fun j h1 h2 => by omega, rfl⟩
    rintro P2 _ ⟨a, c1, c2, c3, rfl⟩ ih2
    show r_isPhraseAt_57 Q _ _ (nI k) (nI o) (nI p) (nI fl) (nI (i + 1)) (nI a) v f g
    unfold r_isPhraseAt_57
    rw [pk_mul, nI_add (2 * k) fl, k2, e18]
    have in18 : vp_in (nI (2 * k + fl)) 4848 := pk_in (2 * k + fl) 4848 (by omega)
    refine ⟨in18, pk_le K a (fun z2 => ?_) (fun z2 => ?_)⟩
    · unfold r_isPhraseAt_103
      rw [pk_mul, nI_add, k2, e18]
      refine ⟨in18, pk_lt a K (fun z3 => absurd z3 (by omega)) (fun _ => ?_)⟩
      have pn : phL m (gpT (nT d)) p (i + 1) = none := by
        rw [ph]
        refine plN_no (fun j h1 h2 => ?_)
        rcases Nat.lt_or_ge j a with h3 | h3
        · exact c3 j h1 h3
        · exact mout _ j (by omega)
      have := phL_none pn ((nT d).length - 1 - (i + 1))
      rw [show i + 1 + ((nT d).length - 1 - (i + 1)) = (nT d).length - 1 by omega] at this
      rw [cN this] at h
      exact h
    · rw [pk_mul, nI_add (6 * o) (i + 1), nI_clamp (show 6 * o + (i + 1) < 2 ^ 31 by omega), b1', ← cy]
      refine ⟨pk_in (6 * o + (i + 1)) 11808 (by omega), p_hasAtM hl hP z2 ?_⟩
      rw [← mt]
      refine w_Bn (fun e => ?_) (fun e => ?_)
      · unfold r_isPhraseAt_103
        rw [pk_mul, nI_add (2 * k) fl, k2, e18]
        refine ⟨in18, pk_lt a K (fun _ => ?_) (fun z3 => absurd z3 (by omega))⟩
        rintro _ rfl
        rw [nI_add]
        exact ih _ (by omega) ⟨a, by rw [ph]; exact plN_some c1 (by omega) e c3, by omega, by omega, rfl⟩
      · rintro _ rfl
        rw [nI_add]
        refine ih2 _ ⟨a + 1, by omega, by omega, fun j h1 h2 => ?_, rfl⟩ ?_
        · by_cases e2 : j = a
          · subst e2; exact e
          · exact c3 j h1 (by omega)
        · show 64 - (nI (a + 1)).toNatClampNeg < 64 - (nI a).toNatClampNeg
          rw [nI_clamp (by omega), nI_clamp (by omega)]
          omega
theorem p_isNearAt {Q : QI} {p : Nat} (hl : rLg v g l) (hP : rPl f g k fl K st) (hN : rNd f g o d) (hd : tkOk d) (hfl : nF d = fl) (hk2 : nK d = 2) (ho : o < 1968) (hp : p < K) (h : Q (bI (cAt d (fun t => pmk (tkC d t) (tkG l st K)) p)) v f g) : r_isNearAt Q (nI k) (nI o) (nI p) v f g := by
  obtain ⟨⟨n1, n1'⟩, n2, n3, n4, n5, n6, n7, n8, n9⟩ := id hN
  obtain ⟨-, t1, t6, l20, t2, g20⟩ := hd
  obtain ⟨⟨k24, fl2⟩, e18, K20, -, -⟩ := id hP
  have len2 := t2 hk2
  obtain ⟨m, hm⟩ : ∃ m, m = pmk (tkC d 1) (tkG l st K) := ⟨_, rfl⟩
  have mout : ∀ q, K ≤ q → m.testBit q = false := fun q hq => by rw [hm]; exact tb_out hq
  have hc : cAt d (fun t => pmk (tkC d t) (tkG l st K)) p = nbB m p (nL d) (nO d) := by
    unfold cAt
    rw [if_pos hk2, hm]
  rw [hc] at h
  have oin : vp_in (nI o) 1968 := pk_in o 1968 ho
  have oc : (nI o).toNatClampNeg = o := nI_clamp (by omega)
  have e42 : f 42 o = nI (nL d) := by rw [n3]; unfold amN; rw [if_neg (by omega), if_neg (by omega)]
  have e41 : f 41 o = nI fl := by rw [n2 (by omega), hfl]
  have e43 : f 43 o = bI (nO d) := n4 (by omega)
  obtain ⟨y, hy⟩ := get_ex (l := nT d) (k := 1) (by omega)
  have b1 := (n7 (by omega) 1 y hy).1
  have cy : tkC d 1 = y.1 := tkC_get rfl hy
  have main : ∀ s0 : Nat, (s0 = if nO d = true then p + 1 else 0) → r_isNearAt_27 Q (nI k) (nI o) (nI p) (nI fl) (nI 0) (nI s0) v f g := by
    intro s0 hs0
    have s0K : s0 ≤ K := by rw [hs0]; split <;> omega
    obtain ⟨nr, hnr⟩ : ∃ nr : Nat → Bool, nr = fun q => decide (1 ≤ (if p < q then q - p else p - q) ∧ (if p < q then q - p else p - q) ≤ nL d) && m.testBit q := ⟨_, rfl⟩
    have fin : anyB (fun i => nr (s0 + i)) (K - s0) = nbB m p (nL d) (nO d) := by
      unfold nbB
      rw [Bool.eq_iff_iff, anyB_ex, anyB_ex]
      constructor
      · rintro ⟨i, hi, hq⟩
        rw [hnr] at hq
        have hq' : (decide (1 ≤ (if p < s0 + i then s0 + i - p else p - (s0 + i)) ∧ (if p < s0 + i then s0 + i - p else p - (s0 + i)) ≤ nL d) && m.testBit (s0 + i)) = true := hq
        rw [Bool.and_eq_true, decide_eq_true_iff] at hq'
        obtain ⟨⟨h1, h2⟩, h3⟩ := hq'
        by_cases c : p < s0 + i
        · rw [if_pos c] at h1 h2
          refine ⟨s0 + i - p - 1, by omega, ?_⟩
          rw [Bool.or_eq_true, Bool.and_eq_true, decide_eq_true_iff]
          refine Or.inl ⟨by omega, ?_⟩
          rw [show p + (s0 + i - p - 1 + 1) = s0 + i by omega]; exact h3
        · rw [if_neg c] at h1 h2
          have no : nO d = false := by
            cases e : nO d with
            | false => rfl
            | true => rw [e, if_pos rfl] at hs0; omega
          refine ⟨p - (s0 + i) - 1, by omega, ?_⟩
          rw [Bool.or_eq_true, Bool.and_eq_true, Bool.and_eq_true, Bool.and_eq_true, no]
          refine Or.inr ⟨⟨rfl, decide_eq_true (by omega)⟩, ?_⟩
          rw [show p - (p - (s0 + i) - 1 + 1) = s0 + i by omega]; exact h3
      · rintro ⟨i, hi, hq⟩
        rw [Bool.or_eq_true, Bool.and_eq_true, Bool.and_eq_true, Bool.and_eq_true, decide_eq_true_iff, decide_eq_true_iff, Bool.not_eq_true'] at hq
        have key : ∀ q, s0 ≤ q → (1 ≤ (if p < q then q - p else p - q) ∧ (if p < q then q - p else p - q) ≤ nL d) → m.testBit q = true → ∃ j, j < K - s0 ∧ nr (s0 + j) = true := fun q h1 h2 h3 => by
          have qK : q < K := by
            rcases Nat.lt_or_ge q K with w | w
            · exact w
            · rw [mout q w] at h3; exact absurd h3 (by decide)
          refine ⟨q - s0, by omega, ?_⟩
          rw [show s0 + (q - s0) = q by omega, hnr]
          show (decide (1 ≤ (if p < q then q - p else p - q) ∧ (if p < q then q - p else p - q) ≤ nL d) && m.testBit q) = true
          rw [decide_eq_true h2, h3]; rfl
        rcases hq with ⟨h1, h2⟩ | ⟨⟨h1, h2⟩, h3⟩
        · refine key (p + (i + 1)) (by rw [hs0]; split <;> omega) ?_ h2
          rw [if_pos (by omega)]
          omega
        · refine key (p - (i + 1)) (by rw [hs0, h1, if_neg (by decide)]; omega) ?_ h3
          rw [if_neg (by omega)]
          omega
    unfold r_isNearAt_27 r_isNearAt_29L
    refine lfp_cnt (K - s0) (fun j y' => y' = (nI k, nI o, nI p, nI fl, bI (anyB (fun i => nr (s0 + i)) j), nI (s0 + j), v, f, g)) ?_ rfl
    rintro P j _ hj rfl ih
    show r_isNearAt_29 Q _ (nI k) (nI o) (nI p) (nI fl) (bI (anyB (fun i => nr (s0 + i)) j)) (nI (s0 + j)) v f g
    have step := anyB_s (fun i => nr (s0 + i)) j
    unfold r_isNearAt_29
    rw [pk_mul, nI_add, nI_clamp (show 2 * k + fl < 2 ^ 31 by omega), e18]
    refine ⟨pk_in (2 * k + fl) 4848 (by omega), pk_le K (s0 + j) (fun z => ⟨⟨_, rfl⟩, ?_⟩) (fun z => ?_)⟩
    · obtain rfl : j = K - s0 := by omega
      rw [fin]; exact h
    have go : ∀ t : Bool, t = anyB (fun i => nr (s0 + i)) (j + 1) → r_isNearAt_114 Q (fun b0 b1 b2 b3 b4 b5 v f g => P (b0, b1, b2, b3, b4, b5, v, f, g)) (nI k) (nI o) (nI p) (nI fl) (nI (s0 + j)) (bI t) v f g := by
      intro t ht
      unfold r_isNearAt_114
      rintro _ rfl
      rw [nI_add, ht, Nat.add_assoc]
      exact ih _ (by omega) rfl
    have main2 : ∀ far : Nat, far = (if p < s0 + j then s0 + j - p else p - (s0 + j)) → r_isNearAt_62 Q (fun b0 b1 b2 b3 b4 b5 v f g => P (b0, b1, b2, b3, b4, b5, v, f, g)) (nI k) (nI o) (nI p) (nI fl) (bI (anyB (fun i => nr (s0 + i)) j)) (nI (s0 + j)) (nI far) v f g := by
      intro far hfar
      have far20 : far ≤ 40 := by rw [hfar]; split <;> omega
      have nrj : nr (s0 + j) = (decide (1 ≤ far ∧ far ≤ nL d) && m.testBit (s0 + j)) := by rw [hnr, hfar]
      unfold r_isNearAt_62 r_isNearAt_113
      refine w_Bn (fun e => go true (by rw [step, e]; rfl)) (fun e => pk_lt far 1 (fun z2 => go false ?_) (fun z2 => ⟨oin, ?_⟩))
      · rw [step, e, nrj, decide_eq_false (by omega)]; rfl
      rw [oc, e42, pk_mul, nI_add (6 * o) 1, nI_clamp (show 6 * o + 1 < 2 ^ 31 by omega), b1, ← cy]
      refine pk_lt (nL d) far (fun z3 => go false ?_) (fun z3 => ⟨pk_in (6 * o + 1) 11808 (by omega), p_hasAtM hl hP (by omega) ?_⟩)
      · rw [step, e, nrj, decide_eq_false (by omega)]; rfl
      rw [← hm]
      exact w_B0 (fun e2 => go false (by rw [step, e, nrj, e2, Bool.and_false]; rfl)) (fun e2 => go true (by rw [step, e, nrj, e2, decide_eq_true ⟨z2, z3⟩]; rfl))
    refine pk_le (s0 + j) p (fun z2 => ?_) (fun z2 => ?_)
    · rw [pk_sub z2]
      exact main2 _ (by rw [if_neg (by omega)])
    · rw [pk_sub (show p ≤ s0 + j by omega)]
      exact main2 _ (by rw [if_pos z2])
  unfold r_isNearAt
  rw [oc, e41, e43]
  refine ⟨oin, ?_⟩
  rintro _ rfl
  refine ⟨oin, w_b0 (nO d) (fun e => main 0 (by rw [e]; rfl)) (fun e => ?_)⟩
  rw [nI_add]
  exact main (p + 1) (by rw [e, if_pos rfl])
end FT
