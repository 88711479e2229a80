/-! the reference: what a document gives -/
def rS3 (f f' : Nat → Nat → Int32) : Prop := ∀ n, n ≠ 52 → n ≠ 53 → n ≠ 54 → f' n = f n
theorem rS3_2 {f f' : Nat → Nat → Int32} (h : rS2 f f') : rS3 f f' := fun n a b _ => h n a b
theorem rS3_tr {f f' f'' : Nat → Nat → Int32} (h : rS3 f f') (g : rS3 f' f'') : rS3 f f'' := fun n a b c => (g n a b c).trans (h n a b c)
theorem rNd_S3 {f f' : Nat → Nat → Int32} {g : Nat → Nat → Int64} {o : Nat} {d : Nd} (h : rS3 f f') (hN : rNd f g o d) : rNd f' g o d := by
  refine rNd_cp hN ?_ ?_ ?_ ?_ ?_ (fun _ _ => rfl) (fun i _ => ?_) (fun i _ => ?_)
  · rw [h 40 (by decide) (by decide) (by decide)]
  · rw [h 41 (by decide) (by decide) (by decide)]
  · rw [h 42 (by decide) (by decide) (by decide)]
  · rw [h 43 (by decide) (by decide) (by decide)]
  · rw [h 44 (by decide) (by decide) (by decide)]
  · rw [h 46 (by decide) (by decide) (by decide)]
  · rw [h 47 (by decide) (by decide) (by decide)]
theorem lfI_at {nd : Nat → Nd} {j : Nat} (h : nLf (nd j) = true) : ∀ {m : Nat}, j < m → (lfI nd m)[(lfI nd j).length]? = some j
  | 0, hj => absurd hj (Nat.not_lt_zero j)
  | m + 1, hj => by
    rw [lfI]
    by_cases c : j = m
    · subst c
      rw [if_pos h, List.getElem?_append_right (Nat.le_refl _), Nat.sub_self]; rfl
    · have ih := lfI_at h (m := m) (by omega)
      rw [List.getElem?_append_left (get_lt ih)]
      exact ih
theorem lfD_at {nd : Nat → Nd} {j m : Nat} (h : nLf (nd j) = true) (hj : j < m) : lfD nd m (lfI nd j).length = nd j := by
  unfold lfD lfN
  rw [List.getD_eq_getElem?_getD, lfI_at h hj]; rfl
/-- the gain of a leaf -/
def gnN (w0 w1 : Nat) (d : Nd) (r : Nat) : Nat := if nK d ≤ 2 then wtN w0 w1 (nF d) * r else wtN w0 w1 (nF d) * 32
theorem cIn_sm (s : Nat) : cIn (some s) = nI s := rfl
theorem w_ci {o : Option Nat} {A B : Prop} (hb : o.getD 0 < 2 ^ 31) (f : ∀ s, o = some s → A) (g : o = none → B) : (¬ cIn o = -1 → A) ∧ (cIn o = -1 → B) := by
  rw [cIn_ne hb]
  refine ⟨fun c => ?_, g⟩
  cases o with
  | none => exact absurd rfl c
  | some s => exact f s rfl
section GI
variable {v v' : Nat → Int32} {f f' : Nat → Nat → Int32} {g g' : Nat → Nat → Int64} {l : LGt} {q k m w0 w1 : Nat} {e : Dc} {nd : Nat → Nd} {rr : Nat → Nat}
theorem p_gives1 {Q : QI} (hl : rLg v g l) (hS : scW l) (hk : k < 2424) (hT : rTx l (f 18) (g 17) k e) (hq40 : q < 41) (h48 : f 48 q = nI m) (hm : m ≤ 48) (hN : ∀ j, j < m → rNd f g (48 * q + j) (nd j)) (hq : qOk nd m) (hG : ∀ j, j < m → ndG (nd j)) (h1 : 1 ≤ (qsS nd m).1) (hlf : (lfI nd m).length ≤ 24) (hw : w0 ≤ 9 ∧ w1 ≤ 9) (hrr : ∀ i, rr i ≤ 102) (h55 : ∀ j, j < m → nLf (nd j) = true → f 55 j = nI (gnN w0 w1 (nd j) (rr (lfI nd j).length))) (hp : mPow g) (h : ∀ f', rS3 f f' → Q (cIn (evS nd (gvF nd m w0 w1 rr (fun i => mkO e (lfD nd m i))) m 0)) v f' g) : r_gives1 Q (nI q) (nI k) v f g := by
  obtain ⟨gv, hgv⟩ : ∃ gv, gv = gvF nd m w0 w1 rr (fun i => mkO e (lfD nd m i)) := ⟨_, rfl⟩
  rw [← hgv] at h
  have gB : ∀ i, (gv i).getD 0 ≤ 58752 := fun i => by
    rw [hgv]
    unfold gvF
    split
    · exact Nat.zero_le _
    · exact gvN_le hw.1 hw.2 (hrr i)
  have evB : ∀ j, j ≤ m → ∀ i, i < (qsS nd j).1 → (evS nd gv j i).getD 0 < 2 ^ 31 := fun j hj i hi => by
    have a := js_ev hq gB j hj
    have b := js_le (v := evS nd gv j) (f := 0) hi
    rw [Nat.zero_add] at b
    have c := lfI_mono (nd := nd) hj
    have : 58752 * (lfI nd j).length ≤ 58752 * 24 := Nat.mul_le_mul_left _ (by omega)
    omega
  have p8 := fun j hj => qOk_le hq j hj
  unfold r_gives1
  rw [pk_mul]
  intro x4 ex4
  rw [ex4]
  unfold r_gives1_8L
  refine lfp_cnt m (fun j y => ∃ f2, rS3 f f2 ∧ (∀ i, i < (qsS nd j).1 → f2 54 i = cIn (evS nd gv j i)) ∧ y = (nI q, nI k, nI (qsS nd j).1, nI (48 * q + j), v, f2, g)) ?_ ⟨f, fun _ _ _ _ => rfl, fun i hi => absurd hi (Nat.not_lt_zero i), rfl⟩
  rintro P j _ hj ⟨f2, s2, hp54, rfl⟩ ih
  show r_gives1_8 Q _ (nI q) (nI k) (nI (qsS nd j).1) (nI (48 * q + j)) v f2 g
  have pj := p8 j hj
  unfold r_gives1_8
  rw [nI_clamp (show q < 2 ^ 31 by omega), s2 48 (by decide) (by decide) (by decide), h48, pk_mul, nI_add]
  refine ⟨pk_in q 41 (by omega), pk_le (48 * q + m) (48 * q + j) (fun z => ⟨pk_in 0 50 (by decide), ?_⟩) (fun z => ?_)⟩
  · obtain rfl : j = m := by omega
    have e0 := hp54 0 (by omega)
    rw [nI_clamp (show 0 < 2 ^ 31 by decide), e0]
    exact h f2 s2
  have ho : 48 * q + j < 1968 := by omega
  have oin : vp_in (nI (48 * q + j)) 1968 := pk_in _ 1968 ho
  have oc : (nI (48 * q + j)).toNatClampNeg = 48 * q + j := nI_clamp (by omega)
  have hNj := hN j (by omega)
  obtain ⟨⟨n1, n1'⟩, -, n3, -, n5, -⟩ := id hNj
  have hNj2 := rNd_S3 s2 hNj
  have e40 : f2 40 (48 * q + j) = nI (nK (nd j)) := by rw [s2 40 (by decide) (by decide) (by decide)]; exact n1
  have e42 : f2 42 (48 * q + j) = nI (amN (nd j)) := by rw [s2 42 (by decide) (by decide) (by decide)]; exact n3
  have e44 : f2 44 (48 * q + j) = nI (mnN (nd j)) := by rw [s2 44 (by decide) (by decide) (by decide)]; exact n5
  have next : ∀ (f3 : Nat → Nat → Int32) (a : Nat) (o : Option Nat), rS3 f f3 → (∀ i, i < (qsS nd j).1 → f3 54 i = cIn (evS nd gv j i)) → a ≤ (qsS nd j).1 → a < 50 → (qsS nd (j + 1)).1 = a + 1 → evS nd gv (j + 1) = upR (evS nd gv j) a o → ∀ f4, f4 = mU f3 54 a (cIn o) → P (nI q, nI k, nI (a + 1), nI (48 * q + (j + 1)), v, f4, g) := by
    intro f3 a o s3 h54 ha ha2 hqs hev f4 ef4
    refine ih _ (by omega) ⟨f4, fun n x y z => by rw [ef4, mU_n z]; exact s3 n x y z, fun i hi => ?_, by rw [hqs]⟩
    rw [ef4, mU_s, hev]
    show (if i = a then cIn o else f3 54 i) = _
    by_cases c : i = a
    · rw [if_pos c, c, upR_s]
    · rw [if_neg c, upR_n c, h54 i (by omega)]
  rw [oc, e40]
  refine ⟨oin, pk_le 6 (nK (nd j)) (fun z6 => ⟨oin, ?_⟩) (fun z6 => ?_)⟩
  · have nl : nLf (nd j) = false := by unfold nLf; rw [decide_eq_false (by omega)]
    obtain ⟨g1, g2, g3, g4, g5⟩ := (hq j (by omega)).2 nl
    have m44 : mnN (nd j) = nP (nd j) := by unfold mnN; rw [if_neg (by omega), if_neg (by omega)]
    obtain ⟨b, hb⟩ : ∃ b, b = (qsS nd j).1 - nP (nd j) := ⟨_, rfl⟩
    rw [e44, m44, pk_sub g4, ← hb]
    intro x7 ex7
    rw [ex7]
    obtain ⟨V, hV⟩ : ∃ V, V = evS nd gv j := ⟨_, rfl⟩
    have vB : ∀ i, i < (qsS nd j).1 → (V i).getD 0 < 2 ^ 31 := fun i hi => by rw [hV]; exact evB j hj i hi
    rw [← hV] at hp54
    unfold r_gives1_130L
    refine lfp_cnt (nP (nd j)) (fun i y => y = (nI q, nI k, nI (qsS nd j).1, nI (48 * q + j), nI (js V b i), nI (jc V b i), nI (b + i), v, f2, g)) ?_ rfl
    rintro P2 i _ hi rfl ih2
    show r_gives1_130 Q _ _ (nI q) (nI k) (nI (qsS nd j).1) (nI (48 * q + j)) (nI (js V b i)) (nI (jc V b i)) (nI (b + i)) v f2 g
    have jci := jc_le (v := V) (f := b) i
    unfold r_gives1_130
    rw [oc, e44, e40, m44, nI_clamp (show b + i < 2 ^ 31 by omega)]
    refine pk_le (qsS nd j).1 (b + i) (fun z => ⟨oin, ?_⟩) (fun z => ⟨pk_in (b + i) 50 (by omega), ?_⟩)
    · obtain rfl : i = nP (nd j) := by omega
      rw [pk_sub g4, ← hb]
      intro x3 ex3
      rw [ex3]
      have bin : vp_in (nI b) 50 := pk_in b 50 (by omega)
      have bc : (nI b).toNatClampNeg = b := nI_clamp (by omega)
      have go : ∀ o : Option Nat, jn (nd j) V b = o → r_gives1_303 Q (fun b0 b1 b2 b3 v f g => P (b0, b1, b2, b3, v, f, g)) (nI q) (nI k) (nI b) (nI (48 * q + j)) (cIn o) (nI b) v f2 g := by
        intro o ho2
        unfold r_gives1_303
        rw [bc]
        refine ⟨bin, ?_⟩
        rintro f4 ef4 _ rfl
        unfold r_gives1_307
        rintro _ rfl
        rw [nI_add, nI_add, Nat.add_assoc]
        refine next f2 b o s2 (by rw [← hV]; exact hp54) (by omega) (by omega) (by rw [qs_n nl]; omega) ?_ f4 ef4
        rw [ev_n nl, ← hb, ← hV, ho2]
      refine ⟨oin, w_ne (nK (nd j)) 7 (fun c7 => ?_) (fun c7 => ?_)⟩
      · unfold r_gives1_217
        refine ⟨fun _ => ⟨oin, ?_⟩, fun c => absurd rfl c⟩
        have am : amN (nd j) = nL (nd j) := by unfold amN; rw [if_neg (by omega), if_neg (by omega)]
        rw [oc, e42, am]
        unfold r_gives1_271
        have jd : jn (nd j) V b = if jc V b (nP (nd j)) < nL (nd j) then none else some (js V b (nP (nd j))) := by unfold jn; rw [if_neg c7]
        refine pk_lt (jc V b (nP (nd j))) (nL (nd j)) (fun c => ?_) (fun c => ?_)
        · exact ⟨fun w => absurd rfl w, fun _ => go none (by rw [jd, if_pos c])⟩
        · exact ⟨fun _ => ⟨fun _ => go (some (js V b (nP (nd j)))) (by rw [jd, if_neg (by omega)]), fun w => absurd rfl w⟩, fun w => absurd w (by decide)⟩
      · have p2 := (hG j (by omega)).2.2.2 c7
        unfold r_gives1_217
        rw [bc, hp54 b (by omega), nI_add, nI_clamp (show b + 1 < 2 ^ 31 by omega), hp54 (b + 1) (by omega)]
        have jd : jn (nd j) V b = if (if (V b).isSome = true then 1 else 0) + (if (V (b + 1)).isSome = true then 1 else 0) = 1 then V b else none := by
          unfold jn
          rw [if_pos c7, p2, jc, jc, jc, Nat.zero_add, Nat.add_zero]
        refine ⟨fun w => absurd w (by decide), fun _ => ⟨bin, ?_⟩⟩
        have no : jn (nd j) V b = none → r_gives1_271 Q (fun b0 b1 b2 b3 v f g => P (b0, b1, b2, b3, v, f, g)) (nI q) (nI k) (nI b) (nI (48 * q + j)) (nI (js V b (nP (nd j)))) (nI 1) (nI 0) v f2 g := fun w => by
          unfold r_gives1_271
          exact ⟨fun w => absurd rfl w, fun _ => go none w⟩
        refine (w_ci (vB b (by omega)) (fun s hs => ⟨pk_in (b + 1) 50 (by omega), ?_⟩) (fun hs => no ?_)).symm
        · rw [jd, hs]; exact ite_self none
        · refine w_ci (vB (b + 1) (by omega)) (fun s2 hs2 => no ?_) (fun hs2 => ?_)
          · rw [jd, hs, hs2]; rfl
          · unfold r_gives1_271
            refine ⟨fun _ => ⟨fun w => absurd w (by decide), fun _ => ⟨bin, ?_⟩⟩, fun w => absurd w (by decide)⟩
            rw [bc, hp54 b (by omega)]
            exact go (V b) (by rw [jd, hs, hs2]; rfl)
    · have jcs : jc V b (i + 1) = jc V b i + (if (V (b + i)).isSome = true then 1 else 0) := rfl
      have jss : js V b (i + 1) = js V b i + (V (b + i)).getD 0 := rfl
      rw [hp54 (b + i) (by omega)]
      have bi : vp_in (nI (b + i)) 50 := pk_in (b + i) 50 (by omega)
      refine w_ci (vB (b + i) (by omega)) (fun s hs => ?_) (fun hs => ?_)
      · unfold r_gives1_154
        rw [nI_add, nI_clamp (show b + i < 2 ^ 31 by omega), hp54 (b + i) (by omega)]
        intro x6 ex6
        rw [ex6]
        refine ⟨bi, w_ci (vB (b + i) (by omega)) (fun _ _ => ⟨bi, ?_⟩) (fun hs2 => by rw [hs] at hs2; exact absurd hs2 (by simp))⟩
        unfold r_gives1_181
        rw [hs, cIn_sm, nI_add]
        rintro _ rfl _ rfl
        rw [nI_add]
        refine ih2 _ (by omega) ?_
        rw [jcs, jss, hs]; rfl
      · unfold r_gives1_154
        rw [nI_add, nI_clamp (show b + i < 2 ^ 31 by omega), hp54 (b + i) (by omega)]
        intro x6 ex6
        rw [ex6]
        refine ⟨bi, w_ci (vB (b + i) (by omega)) (fun _ hs2 => by rw [hs] at hs2; exact absurd hs2 (by simp)) (fun _ => ?_)⟩
        unfold r_gives1_181
        rw [nI_add]
        rintro _ rfl _ rfl
        rw [nI_add]
        refine ih2 _ (by omega) ?_
        rw [jcs, jss, hs]; rfl
  · have nl : nLf (nd j) = true := by unfold nLf; rw [decide_eq_true (by omega)]
    obtain ⟨g1, g2, g3⟩ := (hq j (by omega)).1 nl
    obtain ⟨K, K20, eK, hT2, hwK⟩ := hT (nF (nd j)) g2
    have hP2 : rPl f2 g k (nF (nd j)) K (fun q => g 17 (40 * k + (20 * nF (nd j) + q))) := ⟨⟨hk, g2⟩, by rw [s2 18 (by decide) (by decide) (by decide)]; exact eK, K20, fun _ => rfl, hwK⟩
    have cp := mkO_cp (d := nd j) K20 hT2
    obtain ⟨M, hM⟩ : ∃ M, M = mkO e (nd j) := ⟨_, rfl⟩
    have M20 : M < 2 ^ 20 := by
      rw [hM, cp]
      exact Nat.lt_of_lt_of_le cpF_lt (Nat.pow_le_pow_right (by decide) K20)
    have pc20 := pcN_le M 20
    have gvj : gv (lfI nd j).length = if M = 0 then none else some (gvN w0 w1 (rr (lfI nd j).length) (nd j) (pcN M 20)) := by
      rw [hgv]
      have lf := lfD_at (m := m) nl (by omega)
      have ee : (fun i => mkO e (lfD nd m i)) (lfI nd j).length = M := by
        show mkO e (lfD nd m (lfI nd j).length) = M
        rw [lf, hM]
      unfold gvF
      by_cases c : M = 0
      · rw [if_pos c, if_pos (ee.trans c)]
      · rw [if_neg c, if_neg (fun w => c (ee.symm.trans w)), ee, lf]
    refine p_marks hl hS hP2 hNj2 g3 (hG j (by omega)) ho hp (fun f3 s3 => ?_)
    rw [← cp, ← hM]
    refine p_ones M20 ?_
    have s23 := rS3_tr s2 (rS3_2 s3)
    have e403 : f3 40 (48 * q + j) = nI (nK (nd j)) := by rw [s23 40 (by decide) (by decide) (by decide)]; exact n1
    have e553 : f3 55 j = nI (gnN w0 w1 (nd j) (rr (lfI nd j).length)) := by rw [s23 55 (by decide) (by decide) (by decide)]; exact h55 j (by omega) nl
    have p54 : ∀ i, i < (qsS nd j).1 → f3 54 i = cIn (evS nd gv j i) := fun i hi => by rw [s3 54 (by decide) (by decide)]; exact hp54 i hi
    have go : ∀ o : Option Nat, gv (lfI nd j).length = o → r_gives1_106 Q (fun b0 b1 b2 b3 v f g => P (b0, b1, b2, b3, v, f, g)) (nI q) (nI k) (nI (qsS nd j).1) (nI (48 * q + j)) (cIn o) (nI (qsS nd j).1) v f3 g := by
      intro o ho2
      unfold r_gives1_106
      rw [nI_clamp (show (qsS nd j).1 < 2 ^ 31 by omega)]
      refine ⟨pk_in (qsS nd j).1 50 (by omega), ?_⟩
      rintro f4 ef4 _ rfl
      unfold r_gives1_307
      rintro _ rfl
      rw [nI_add, nI_add, Nat.add_assoc]
      refine next f3 (qsS nd j).1 o s23 p54 (Nat.le_refl _) (by omega) (qs_s nl) ?_ f4 ef4
      rw [ev_s nl, ho2]
    refine w_nz (pcN M 20) (fun c => ⟨oin, ?_⟩) (fun c => ?_)
    · have M0 : ¬ M = 0 := fun w => by rw [(pcN_0 M20).mpr w] at c; omega
      rw [if_neg M0] at gvj
      rw [e403, pk_sub (show 48 * q ≤ 48 * q + j by omega), show 48 * q + j - 48 * q = j by omega, nI_clamp (show j < 2 ^ 31 by omega)]
      refine pk_lt (nK (nd j)) 3 (fun c3 => ?_) (fun c3 => ?_)
      · refine p_strength pc20 ⟨pk_in j 48 (by omega), ?_⟩
        rw [e553, pk_mul]
        have e1 : gvN w0 w1 (rr (lfI nd j).length) (nd j) (pcN M 20) = 64 * pcN M 20 / (pcN M 20 + 1) * gnN w0 w1 (nd j) (rr (lfI nd j).length) := by
          unfold gvN gnN
          rw [if_pos (by omega), if_pos (by omega), Nat.mul_comm (wtN w0 w1 (nF (nd j))), Nat.mul_assoc]
        rw [← e1]
        exact go _ gvj
      · refine ⟨pk_in j 48 (by omega), ?_⟩
        rw [e553]
        have e1 : gvN w0 w1 (rr (lfI nd j).length) (nd j) (pcN M 20) = gnN w0 w1 (nd j) (rr (lfI nd j).length) := by
          unfold gvN gnN
          rw [if_neg (by omega), if_neg (by omega)]
        rw [← e1]
        exact go _ gvj
    · rw [if_pos ((pcN_0 M20).mp c)] at gvj
      exact go none gvj
end GI
