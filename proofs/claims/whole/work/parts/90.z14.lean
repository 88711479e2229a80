/-! the reference: the bound of a block -/
theorem pcN_cnt (m : Nat) : ∀ n : Nat, pcN m n = cntB (fun p => m.testBit p) n
  | 0 => rfl
  | n + 1 => by rw [pcN, cntB, pcN_cnt m n]
theorem cntB_ext {f h : Nat → Bool} : ∀ {n : Nat}, (∀ i, i < n → f i = h i) → cntB f n = cntB h n
  | 0, _ => rfl
  | n + 1, e => by rw [cntB, cntB, cntB_ext (fun i hi => e i (by omega)), e n (by omega)]
theorem cntB_out {f : Nat → Bool} {K : Nat} (h : ∀ i, K ≤ i → f i = false) : ∀ d : Nat, cntB f (K + d) = cntB f K
  | 0 => rfl
  | d + 1 => by rw [← Nat.add_assoc, cntB, cntB_out h d, h _ (by omega)]; rfl
section BD
variable {v v' : Nat → Int32} {f f' : Nat → Nat → Int32} {g g' : Nat → Nat → Int64} {l : LGt} {made dn : Nat} {sg : Nat → List Dc} {hd : Nat → Nat → Nat} {q m w0 w1 : Nat} {nd : Nat → Nd} {rr : Nat → Nat}
theorem rSg_S3 (h : rS3 f f') (hs : rSg l v f g made dn sg hd) : rSg l v f' g made dn sg hd := by
  unfold rSg
  rw [h 20 (by decide) (by decide) (by decide), h 19 (by decide) (by decide) (by decide), h 14 (by decide) (by decide) (by decide), h 15 (by decide) (by decide) (by decide), h 16 (by decide) (by decide) (by decide), h 18 (by decide) (by decide) (by decide)]; exact hs
/-- whether a place has a leaf's first token -/
noncomputable def fsB (l : LGt) (d : Nd) (st : Nat → Int64) (p : Nat) : Bool := if nK d ≤ 2 then hsB l (st p) (tkC d 0) else ftB l d (st p)
theorem fsA_cnt {L : List Dc} {d : Nd} {j : Nat} {e : Dc} {st : Nat → Int64} {K : Nat} (hK : K ≤ 20) (hj : L[j]? = some e) (h : dT e (nF d) = tkG l st K) : pcN (fsA L d j) 20 = cntB (fsB l d st) K := by
  have key : ∀ p, (fsA L d j).testBit p = (decide (p < K) && fsB l d st p) := by
    intro p
    unfold fsA fsB
    by_cases c : nK d ≤ 2
    · rw [if_pos c, if_pos c]
      unfold mkC mF
      rw [tlD_at hj, h, bit_hs]
    · rw [if_neg c, if_neg c]
      have e1 := mkO_cp (d := d) hK h
      have e2 : mkO e d = tdK (tdI d) (dT e (nF d)) := by unfold mkO; rw [if_neg c]
      rw [tlD_at hj, ← e2, e1, cpF_tb]
      unfold mkB
      rw [if_neg c]
  rw [pcN_cnt]
  have e20 : cntB (fun p => (fsA L d j).testBit p) 20 = cntB (fun p => (fsA L d j).testBit p) K := by
    have := cntB_out (f := fun p => (fsA L d j).testBit p) (K := K) (fun i hi => by
      show (fsA L d j).testBit i = false
      rw [key, decide_eq_false (show ¬ i < K by omega)]; rfl) (20 - K)
    rwa [show K + (20 - K) = 20 by omega] at this
  rw [e20]
  exact cntB_ext (fun i hi => by rw [key, decide_eq_true hi]; rfl)
theorem p_bound {Q : QI} {n a t : Nat} (hl : rLg v g l) (hS : scW l) (hs : rSg l v f g made dn sg hd) (hn : n < made) (hat : a ≤ t) (ht : t ≤ (sg n).length) (hq40 : q < 41) (h48 : f 48 q = nI m) (hm : m ≤ 48) (hN : ∀ j, j < m → rNd f g (48 * q + j) (nd j)) (hq : qOk nd m) (h55 : ∀ j, j < m → nLf (nd j) = true → f 55 j = nI (gnN w0 w1 (nd j) (rr (lfI nd j).length))) (h56 : ∀ j, j < m → f 56 j = bI ((qsS nd m).2.2 j)) (hp : mPow g) (h : ∀ f', rS2 f f' → Q (nI (bdS nd m w0 w1 rr sg n a t)) v f' g) : r_bound Q (nI q) (nI (100 * n + a)) (nI (100 * n + t)) v f g := by
  obtain ⟨⟨-, m201⟩, ⟨-, d12⟩, hs3⟩ := id hs
  obtain ⟨-, l100, hdoc⟩ := hs3 n hn
  obtain ⟨BD, hBD⟩ : ∃ BD, BD = bdN nd m w0 w1 rr (fun i j => fsA (sg n) (lfD nd m i) j) a t := ⟨_, rfl⟩
  have hfin : bdS nd m w0 w1 rr sg n a t = BD (lfI nd m).length := by rw [hBD]; rfl
  rw [hfin] at h
  unfold r_bound r_bound_6L
  refine lfp_cnt m (fun j y => ∃ f2, rS2 f f2 ∧ y = (nI q, nI (100 * n + a), nI (100 * n + t), nI (BD (lfI nd j).length), nI j, v, f2, g)) ?_ ⟨f, fun _ _ _ => rfl, by rw [hBD]; rfl⟩
  rintro P j _ hj ⟨f2, s2, rfl⟩ ih
  show r_bound_6 Q _ (nI q) (nI (100 * n + a)) (nI (100 * n + t)) (nI (BD (lfI nd j).length)) (nI j) v f2 g
  unfold r_bound_6
  rw [nI_clamp (show q < 2 ^ 31 by omega), s2 48 (by decide) (by decide), h48, pk_mul, nI_add]
  refine ⟨pk_in q 41 hq40, pk_le m j (fun z => ?_) (fun z => ?_)⟩
  · obtain rfl : j = m := by omega
    exact h f2 s2
  intro x6 ex6
  rw [ex6]
  have ho : 48 * q + j < 1968 := by omega
  have oin : vp_in (nI (48 * q + j)) 1968 := pk_in _ 1968 ho
  have oc : (nI (48 * q + j)).toNatClampNeg = 48 * q + j := nI_clamp (by omega)
  have jc' : (nI j).toNatClampNeg = j := nI_clamp (by omega)
  have jin : vp_in (nI j) 48 := pk_in j 48 (by omega)
  have hNj := hN j z
  obtain ⟨⟨n1, n1'⟩, n2, n3, -, n5, -, n7, -⟩ := id hNj
  have e40 : ∀ f3, rS2 f f3 → f3 40 (48 * q + j) = nI (nK (nd j)) := fun f3 s3 => by rw [s3 40 (by decide) (by decide)]; exact n1
  obtain ⟨F, hF⟩ : ∃ F : Nat → Nat, F = fun k => pcN (fsA (sg n) (nd j) (a + k)) 20 := ⟨_, rfl⟩
  have F20 : ∀ k, F k ≤ 20 := fun k => by rw [hF]; exact pcN_le _ _
  have bs : nLf (nd j) = true → BD (lfI nd (j + 1)).length = BD (lfI nd j).length + (if mxB F (t - a) = 0 ∨ (qsS nd m).2.2 j = true then 0 else gvN w0 w1 (rr (lfI nd j).length) (nd j) (mxB F (t - a))) := fun nl => by
    have lf := lfD_at (m := m) nl z
    have ln : lfN nd m (lfI nd j).length = j := by
      unfold lfN
      rw [List.getD_eq_getElem?_getD, lfI_at nl z]; rfl
    have ff : (fun k => pcN ((fun i j => fsA (sg n) (lfD nd m i) j) (lfI nd j).length (a + k)) 20) = F := by
      rw [hF]
      funext k
      show pcN (fsA (sg n) (lfD nd m (lfI nd j).length) (a + k)) 20 = _
      rw [lf]
    rw [lfI_s nl, hBD]
    show bdN nd m w0 w1 rr _ a t (lfI nd j).length + _ = _
    rw [ln, lf, ff]
  have go : ∀ (f3 : Nat → Nat → Int32) (c : Nat), rS2 f f3 → c ≤ 20 → (nLf (nd j) = false → c = 0) → (nLf (nd j) = true → c = if (qsS nd m).2.2 j = true then 0 else mxB F (t - a)) → r_bound_204 Q (fun b0 b1 b2 b3 b4 v f g => P (b0, b1, b2, b3, b4, v, f, g)) (nI q) (nI (100 * n + a)) (nI (100 * n + t)) (nI (BD (lfI nd j).length)) (nI j) (nI (48 * q + j)) (nI c) v f3 g := by
    intro f3 c s3 c20 hc0 hc1
    have fin : ∀ (x : Nat), BD (lfI nd (j + 1)).length = BD (lfI nd j).length + x → r_bound_249 Q (fun b0 b1 b2 b3 b4 v f g => P (b0, b1, b2, b3, b4, v, f, g)) (nI q) (nI (100 * n + a)) (nI (100 * n + t)) (nI j) (nI x) (nI (BD (lfI nd j).length)) v f3 g := by
      intro x hx
      unfold r_bound_249
      rintro _ rfl _ rfl
      rw [nI_add, nI_add, ← hx]
      exact ih _ z ⟨f3, s3, rfl⟩
    unfold r_bound_204
    refine w_nz c (fun hc => ⟨oin, ?_⟩) (fun hc => fin 0 ?_)
    · have nl : nLf (nd j) = true := by
        cases e : nLf (nd j) with
        | true => rfl
        | false => have := hc0 e; omega
      have hcc := hc1 nl
      have ns : ¬ (qsS nd m).2.2 j = true := fun w => by rw [if_pos w] at hcc; omega
      rw [if_neg ns] at hcc
      have bb := bs nl
      rw [if_neg (by rintro (w | w); · omega
                     · exact ns w), ← hcc] at bb
      have e55 : f3 55 j = nI (gnN w0 w1 (nd j) (rr (lfI nd j).length)) := by rw [s3 55 (by decide) (by decide)]; exact h55 j z nl
      rw [oc, e40 f3 s3, jc', e55]
      refine pk_lt (nK (nd j)) 3 (fun c3 => ?_) (fun c3 => ⟨jin, ?_⟩)
      · refine p_strength c20 ⟨jin, ?_⟩
        rw [e55, pk_mul]
        refine fin _ ?_
        rw [bb]
        unfold gvN gnN
        rw [if_pos (by omega), if_pos (by omega), Nat.mul_comm (wtN w0 w1 (nF (nd j))), Nat.mul_assoc]
      · refine fin _ ?_
        rw [bb]
        unfold gvN gnN
        rw [if_neg (by omega), if_neg (by omega)]
    · cases nl : nLf (nd j) with
      | false => rw [lfI_n nl]; rfl
      | true =>
        have hcc := hc1 nl
        rw [bs nl, if_pos]
        by_cases w : (qsS nd m).2.2 j = true
        · exact Or.inr w
        · rw [if_neg w] at hcc; exact Or.inl (by omega)
  unfold r_bound_32L
  refine lfp_cnt (t - a) (fun i y => ((nLf (nd j) = true ∧ (qsS nd m).2.2 j = false) ∨ i = 0) ∧ ∃ f3, rS2 f f3 ∧ y = (nI q, nI (100 * n + a), nI (100 * n + t), nI (BD (lfI nd j).length), nI j, nI (48 * q + j), nI (mxB F i), nI (100 * n + (a + i)), v, f3, g)) ?_ ⟨Or.inr rfl, f2, s2, rfl⟩
  rintro P2 i _ hi ⟨hi1, f3, s3, rfl⟩ ih2
  show r_bound_32 Q _ _ (nI q) (nI (100 * n + a)) (nI (100 * n + t)) (nI (BD (lfI nd j).length)) (nI j) (nI (48 * q + j)) (nI (mxB F i)) (nI (100 * n + (a + i))) v f3 g
  have mx20 : mxB F i ≤ 20 := mxB_le F20 i
  unfold r_bound_32
  refine pk_le (100 * n + t) (100 * n + (a + i)) (fun z2 => ?_) (fun z2 => ⟨oin, ?_⟩)
  · obtain rfl : i = t - a := by omega
    rcases hi1 with ⟨w1, w2⟩ | w
    · exact go f3 _ s3 mx20 (fun w3 => by rw [w1] at w3; exact absurd w3 (by decide)) (fun _ => by rw [w2]; rfl)
    · rw [w]
      refine go f3 0 s3 (by omega) (fun _ => rfl) (fun _ => ?_)
      rw [w]
      exact (ite_self 0).symm
  rw [oc, e40 f3 s3, jc']
  refine pk_le 6 (nK (nd j)) (fun c6 => ?_) (fun c6 => ⟨jin, ?_⟩)
  · have nl : nLf (nd j) = false := by unfold nLf; rw [decide_eq_false (by omega)]
    have i0 : i = 0 := by
      rcases hi1 with ⟨w1, -⟩ | w
      · rw [nl] at w1; exact absurd w1 (by decide)
      · exact w
    rw [i0]
    exact go f3 0 s3 (by omega) (fun _ => rfl) (fun w => by rw [nl] at w; exact absurd w (by decide))
  have nl : nLf (nd j) = true := by unfold nLf; rw [decide_eq_true (by omega)]
  obtain ⟨g1, g2, g3⟩ := (hq j z).1 nl
  have e56 : f3 56 j = bI ((qsS nd m).2.2 j) := by rw [s3 56 (by decide) (by decide)]; exact h56 j z
  rw [e56]
  refine w_Bn (fun e => ?_) (fun e => ?_)
  · have i0 : i = 0 := by
      rcases hi1 with ⟨-, w1⟩ | w
      · rw [e] at w1; exact absurd w1 (by decide)
      · exact w
    rw [i0]
    exact go f3 0 s3 (by omega) (fun _ => rfl) (fun _ => by rw [if_pos e])
  obtain ⟨dc, hdc⟩ := get_ex (l := sg n) (k := a + i) (by omega)
  obtain ⟨e19, hlt, ⟨-, -, -, hx⟩⟩ := hdoc (a + i) dc hdc
  obtain ⟨K, K20, eK, hTd, hwK⟩ := hx (nF (nd j)) g2
  obtain ⟨kk, hkk⟩ : ∃ kk, kk = hd n (a + i) := ⟨_, rfl⟩
  rw [← hkk] at e19 hlt eK hTd hwK
  obtain ⟨st, hst⟩ : ∃ st : Nat → Int64, st = fun p => g 17 (40 * kk + (20 * nF (nd j) + p)) := ⟨_, rfl⟩
  have hTd2 : dT dc (nF (nd j)) = tkG l st K := by rw [hst]; exact hTd
  have Fi : F i = cntB (fsB l (nd j) st) K := by rw [hF]; exact fsA_cnt K20 hdc hTd2
  have e41 : ∀ f4, rS2 f f4 → f4 41 (48 * q + j) = nI (nF (nd j)) := fun f4 s4 => by rw [s4 41 (by decide) (by decide)]; exact n2 (by omega)
  have din : vp_in (nI (100 * n + (a + i))) 20200 := pk_in (100 * n + (a + i)) 20200 (by omega)
  have dc' : (nI (100 * n + (a + i))).toNatClampNeg = 100 * n + (a + i) := nI_clamp (by omega)
  unfold r_bound_66L
  refine lfp_cnt K (fun p y => ∃ f4, rS2 f f4 ∧ y = (nI q, nI (100 * n + a), nI (100 * n + t), nI (BD (lfI nd j).length), nI j, nI (48 * q + j), nI (mxB F i), nI (100 * n + (a + i)), nI (cntB (fsB l (nd j) st) p), nI p, v, f4, g)) ?_ ⟨f3, s3, rfl⟩
  rintro P3 p _ hpK ⟨f4, s4, rfl⟩ ih3
  show r_bound_66 Q _ _ _ (nI q) (nI (100 * n + a)) (nI (100 * n + t)) (nI (BD (lfI nd j).length)) (nI j) (nI (48 * q + j)) (nI (mxB F i)) (nI (100 * n + (a + i))) (nI (cntB (fsB l (nd j) st) p)) (nI p) v f4 g
  have cp := cntB_le (fsB l (nd j) st) p
  unfold r_bound_66
  rw [oc, dc', s4 19 (by decide) (by decide), e19, e41 f4 s4, e40 f4 s4, pk_mul, nI_add, nI_clamp (show 2 * kk + nF (nd j) < 2 ^ 31 by omega), s4 18 (by decide) (by decide), eK]
  refine ⟨din, oin, pk_in (2 * kk + nF (nd j)) 4848 (by omega), pk_le K p (fun z3 => ?_) (fun z3 => ⟨oin, ?_⟩)⟩
  · obtain rfl : p = K := by omega
    have nx : ∀ c : Nat, c = mxB F (i + 1) → r_bound_196 Q (fun b0 b1 b2 b3 b4 v f g => P (b0, b1, b2, b3, b4, v, f, g)) (fun b0 b1 b2 b3 b4 b5 b6 b7 v f g => P2 (b0, b1, b2, b3, b4, b5, b6, b7, v, f, g)) (nI q) (nI (100 * n + a)) (nI (100 * n + t)) (nI (BD (lfI nd j).length)) (nI j) (nI (48 * q + j)) (nI (100 * n + (a + i))) (nI c) v f4 g := by
      intro c hc
      unfold r_bound_196
      rintro _ rfl
      rw [nI_add, hc]
      exact ih2 _ (by omega) ⟨Or.inl ⟨nl, e⟩, f4, s4, by rw [Nat.add_assoc, Nat.add_assoc]⟩
    rw [← Fi]
    refine pk_le (F i) (mxB F i) (fun z4 => nx _ ?_) (fun z4 => nx _ ?_) rfl rfl (by have := F20 i; omega) (by omega)
    · rw [mxB]; omega
    · rw [mxB]; omega
  · have go3 : ∀ f5, rS2 f f5 → r_bound_159 Q (fun b0 b1 b2 b3 b4 v f g => P (b0, b1, b2, b3, b4, v, f, g)) (fun b0 b1 b2 b3 b4 b5 b6 b7 v f g => P2 (b0, b1, b2, b3, b4, b5, b6, b7, v, f, g)) (fun b0 b1 b2 b3 b4 b5 b6 b7 b8 b9 v f g => P3 (b0, b1, b2, b3, b4, b5, b6, b7, b8, b9, v, f, g)) (nI q) (nI (100 * n + a)) (nI (100 * n + t)) (nI (BD (lfI nd j).length)) (nI j) (nI (48 * q + j)) (nI (mxB F i)) (nI (100 * n + (a + i))) (nI (cntB (fsB l (nd j) st) p)) (nI p) (bI (fsB l (nd j) st p)) v f5 g := by
      intro f5 s5
      have nx : ∀ c : Nat, (c = if fsB l (nd j) st p = true then 1 else 0) → r_bound_173 Q (fun b0 b1 b2 b3 b4 v f g => P (b0, b1, b2, b3, b4, v, f, g)) (fun b0 b1 b2 b3 b4 b5 b6 b7 v f g => P2 (b0, b1, b2, b3, b4, b5, b6, b7, v, f, g)) (fun b0 b1 b2 b3 b4 b5 b6 b7 b8 b9 v f g => P3 (b0, b1, b2, b3, b4, b5, b6, b7, b8, b9, v, f, g)) (nI q) (nI (100 * n + a)) (nI (100 * n + t)) (nI (BD (lfI nd j).length)) (nI j) (nI (48 * q + j)) (nI (mxB F i)) (nI (100 * n + (a + i))) (nI p) (nI c) (nI (cntB (fsB l (nd j) st) p)) v f5 g := by
        intro c hc
        unfold r_bound_173
        rintro _ rfl _ rfl
        rw [nI_add, nI_add]
        refine ih3 _ (by omega) ⟨f5, s5, ?_⟩
        rw [cntB, hc]
      unfold r_bound_159
      exact w_B0 (fun e5 => nx 0 (by rw [e5]; rfl)) (fun e5 => nx 1 (by rw [e5]; rfl))
    have hP4 : rPl f4 g kk (nF (nd j)) K st := ⟨⟨by omega, g2⟩, by rw [s4 18 (by decide) (by decide)]; exact eK, K20, fun q => by rw [hst], fun q hq' => by rw [hst]; exact hwK q hq'⟩
    refine pk_lt (nK (nd j)) 3 (fun c3 => ⟨din, oin, ?_⟩) (fun c3 => ⟨din, oin, ?_⟩)
    · have hk : tkOk (nd j) := by
        rcases g3 with w | w
        · exact w
        · have := w.1; omega
      obtain ⟨x, hx0⟩ := get_ex (l := nT (nd j)) (k := 0) (by have := hk.2.1; omega)
      have b1 := (n7 (by omega) 0 x hx0).1
      rw [Nat.add_zero] at b1
      have cx : tkC (nd j) 0 = x.1 := tkC_get rfl hx0
      rw [pk_mul, nI_clamp (show 6 * (48 * q + j) < 2 ^ 31 by omega), b1, ← cx]
      have hh : hsB l (st p) (tkC (nd j) 0) = fsB l (nd j) st p := by unfold fsB; rw [if_pos (by omega)]
      refine ⟨pk_in (6 * (48 * q + j)) 11808 (by omega), p_hasAt hl (by omega) g2 (by omega) (hP4.2.2.2.1 p) ?_⟩
      rw [hh]
      exact go3 f4 s4
    · have hk : tlOk (nd j) := by
        rcases g3 with w | w
        · have := w.1; omega
        · exact w
      have hh : ftB l (nd j) (st p) = fsB l (nd j) st p := by unfold fsB; rw [if_neg (by omega)]
      refine p_fitsAt hl hS (rNd_S2 s4 hNj) hk ho (by omega) g2 (by omega) (hP4.2.2.2.1 p) (hP4.2.2.2.2 p z3) hp (fun f5 s5 => ?_)
      rw [hh]
      exact go3 f5 (rS2_tr s4 s5)
end BD
