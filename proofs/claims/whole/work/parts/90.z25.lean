/-! the reference: marks of a document laid, whether they are met; choices -/
section PA
variable {v v' : Nat → Int32} {f f' : Nat → Nat → Int32} {g g' : Nat → Nat → Int64} {l : LGt} {made dn : Nat} {sg : Nat → List Dc} {hd : Nat → Nat → Nat} {sl : Nat → Option (Nat × Vw)} {a k q m w0 w1 : Nat} {s : Vw} {nd : Nat → Nd} {rr : Nat → Nat}
theorem mkO_lt {d : Nd} {e : Dc} {f18 : Nat → Int32} {g17 : Nat → Int64} {kk : Nat} (hx : rTx l f18 g17 kk e) (hf : nF d < 2) : mkO e d < 2 ^ 20 := by
  obtain ⟨K, K20, -, hT, -⟩ := hx (nF d) hf
  rw [mkO_cp K20 hT]
  exact Nat.lt_of_lt_of_le cpF_lt (Nat.pow_le_pow_right (by decide) K20)
theorem sp_ok {e : Dc} {fl : Nat} {f18 : Nat → Int32} {g17 : Nat → Int64} {kk : Nat} (hx : rTx l f18 g17 kk e) (hq : qOk nd m) (hl : (lfI nd m).length ≤ 24) : spOk (spF nd m (fun i => mkO e (lfD nd m i)) fl) (lfI nd m).length := by
  refine ⟨hl, fun i hi => ?_, fun i mm h => ?_⟩
  · unfold spF
    rw [if_neg (fun w => by omega)]
  · unfold spF at h
    split at h
    · rename_i w
      rw [← Option.some.inj h]
      exact ⟨w.2.2.2, mkO_lt hx (qOk_lf hq w.1).1⟩
    · exact absurd h (by simp)
theorem p_laysMarks {Q : QI} {y : Nat × Nat} {e : Dc} {fl : Nat} {sp : Nat → Option Nat} (hfl : fl < 2) (hc : rFc v f g l made dn sg hd sl q m nd w0 w1 rr) (hp : pFc g l sl a k s q m nd w0 w1 rr) (hy : y ∈ mtL sg s.2 s.1) (hd' : (sg y.1)[y.2]? = some e) (hsp : sp = spF nd m (fun i => mkO e (lfD nd m i)) fl) (h : ∀ v' f', (∀ i, i ≠ 92 → v' i = v i) → (∀ n, n ≠ 52 → n ≠ 53 → n ≠ 61 → f' n = f n) → v' 92 = nI (mlL sp (lfI nd m).length).length → (∀ i x, (mlL sp (lfI nd m).length)[i]? = some x → f' 61 i = nI x) → Q (nI (mkF sp (lfI nd m).length)) v' f' g) : r_laysMarks Q (nI q) (nI (hd y.1 y.2)) (nI fl) v f g := by
  obtain ⟨hS, hpw, a5, hsl, q40, m48, hq, hG, h1, hlf, hw, hrr⟩ := hp
  obtain ⟨g1, g2, g3, g4, g5, g6, g7⟩ := hc
  obtain ⟨d2, hd2, ⟨-, -, -, hx⟩, hlt⟩ := rSg_at g2 (hid_of (s := (k, s)) g3 a5 hsl) hy
  rw [hd'] at hd2
  obtain rfl := Option.some.inj hd2
  have hsok : spOk sp (lfI nd m).length := by rw [hsp]; exact sp_ok hx hq hlf
  have ml24 : ∀ j, (mlL sp j).length ≤ j := fun j => by
    induction j with
    | zero => exact Nat.le_refl _
    | succ j ih =>
      rw [mlL, List.length_append]
      cases sp j with
      | none => show _ + 0 ≤ _; omega
      | some x => show _ + 1 ≤ _; omega
  unfold r_laysMarks
  intro v1 e1
  unfold r_laysMarks_11L
  refine lfp_cnt m (fun j z => ∃ v' f', (∀ i, i ≠ 92 → v' i = v i) ∧ (∀ n, n ≠ 52 → n ≠ 53 → n ≠ 61 → f' n = f n) ∧ v' 92 = nI (mlL sp (lfI nd j).length).length ∧ (∀ i x, (mlL sp (lfI nd j).length)[i]? = some x → f' 61 i = nI x) ∧ z = (nI q, nI (hd y.1 y.2), nI fl, nI (mkF sp (lfI nd j).length), nI j, v', f', g)) ?_ ⟨v1, f, fun i hi => by rw [e1, upd_n hi], fun _ _ _ _ => rfl, by rw [e1, upd_at]; rfl, fun i x hi => absurd (get_lt hi) (Nat.not_lt_zero i), rfl⟩
  rintro P j _ hj ⟨v', f', b1, b2, b3, b4, rfl⟩ ih
  show r_laysMarks_11 Q _ (nI q) (nI (hd y.1 y.2)) (nI fl) (nI (mkF sp (lfI nd j).length)) (nI j) v' f' g
  unfold r_laysMarks_11
  rw [nI_clamp (show q < 2 ^ 31 by omega), b2 48 (by decide) (by decide) (by decide), g4, pk_mul, nI_add]
  refine ⟨pk_in q 41 (by omega), pk_le m j (fun z => ?_) (fun z => ?_)⟩
  · obtain rfl : j = m := by omega
    exact h v' f' b1 b2 b3 b4
  intro x6 ex6
  rw [ex6]
  have hNj := g5 j z
  obtain ⟨⟨n1, n1'⟩, n2, -⟩ := id hNj
  have ho : 48 * q + j < 1968 := by omega
  have oin : vp_in (nI (48 * q + j)) 1968 := pk_in (48 * q + j) 1968 ho
  have oc : (nI (48 * q + j)).toNatClampNeg = 48 * q + j := nI_clamp (by omega)
  have lfj := lfI_mono (nd := nd) (k := j) (m := m) (by omega)
  have go : ∀ f3 (x : Nat), rS2 f' f3 → x < 2 ^ 20 → mlL sp (lfI nd (j + 1)).length = mlL sp (lfI nd j).length ++ (if x = 0 then [] else [x]) → mkF sp (lfI nd (j + 1)).length = mkF sp (lfI nd j).length ||| x → r_laysMarks_75 Q (fun b0 b1 b2 b3 b4 v f g => P (b0, b1, b2, b3, b4, v, f, g)) (nI q) (nI (hd y.1 y.2)) (nI fl) (nI (mkF sp (lfI nd j).length)) (nI j) (nI x) v' f3 g := by
    intro f3 x s3 x20 hml hmk
    have fb2 : ∀ n, n ≠ 52 → n ≠ 53 → n ≠ 61 → f3 n = f n := fun n h1 h2 h3 => (s3 n h1 h2).trans (b2 n h1 h2 h3)
    unfold r_laysMarks_75
    refine w_z x (fun c => ?_) (fun c => ?_)
    · unfold r_laysMarks_110
      rintro _ rfl
      rw [nI_add]
      rw [if_pos c, List.append_nil] at hml
      rw [c, Nat.or_zero] at hmk
      refine ih _ z ⟨v', f3, b1, fb2, by rw [hml]; exact b3, fun i x' hi => ?_, by rw [hmk]⟩
      rw [s3 61 (by decide) (by decide)]
      rw [hml] at hi
      exact b4 i x' hi
    · rw [if_neg (by omega)] at hml
      have mll := ml24 (lfI nd j).length
      rw [b3]
      refine ⟨pk_in (mlL sp (lfI nd j).length).length 48 (by omega), ?_⟩
      rw [nI_clamp (show (mlL sp (lfI nd j).length).length < 2 ^ 31 by omega)]
      rintro f4 e4 v5 e5 _ rfl
      unfold r_laysMarks_110
      rintro _ rfl
      rw [nI_add, nI_or, ← hmk]
      refine ih _ z ⟨v5, f4, fun i hi => by rw [e5, upd_n hi]; exact b1 i hi, fun n h1 h2 h3 => by rw [e4, mU_n h3]; exact fb2 n h1 h2 h3, ?_, fun i x' hi => ?_, rfl⟩
      · rw [e5, upd_at, nI_add, hml, List.length_append]; rfl
      · rw [e4, mU_s]
        show (if i = _ then nI x else f3 61 i) = _
        rw [hml] at hi
        rcases app1_get.mp hi with hi | ⟨i1, i2⟩
        · rw [if_neg (by have := get_lt hi; omega), s3 61 (by decide) (by decide)]
          exact b4 i x' hi
        · rw [if_pos i1, i2]
  have go0 : mlL sp (lfI nd (j + 1)).length = mlL sp (lfI nd j).length → mkF sp (lfI nd (j + 1)).length = mkF sp (lfI nd j).length → r_laysMarks_74 Q (fun b0 b1 b2 b3 b4 v f g => P (b0, b1, b2, b3, b4, v, f, g)) (nI q) (nI (hd y.1 y.2)) (nI fl) (nI (mkF sp (lfI nd j).length)) (nI j) v' f' g := by
    intro w1' w2'
    unfold r_laysMarks_74
    exact go f' 0 (fun _ _ _ => rfl) (by decide) (by rw [w1', if_pos rfl, List.append_nil]) (by rw [w2', Nat.or_zero])
  rw [oc, b2 40 (by decide) (by decide) (by decide), n1]
  refine ⟨oin, pk_le 6 (nK (nd j)) (fun c6 => go0 ?_ ?_) (fun c6 => ?_)⟩
  · have nl : nLf (nd j) = false := by unfold nLf; rw [decide_eq_false (by omega)]
    rw [lfI_n nl]
  · have nl : nLf (nd j) = false := by unfold nLf; rw [decide_eq_false (by omega)]
    rw [lfI_n nl]
  have nl : nLf (nd j) = true := by unfold nLf; rw [decide_eq_true (by omega)]
  obtain ⟨f2', fo⟩ := ((hq j z).1 nl).2
  have li : (lfI nd j).length < (lfI nd m).length := get_lt (lfI_at nl z)
  have spj : sp (lfI nd j).length = if (qsS nd m).2.2 j = false ∧ nF (nd j) = fl ∧ mkO e (nd j) ≠ 0 then some (mkO e (nd j)) else none := by
    rw [hsp]
    unfold spF
    have ln : lfN nd m (lfI nd j).length = j := by
      unfold lfN
      rw [List.getD_eq_getElem?_getD, lfI_at nl z]; rfl
    have lD := lfD_at (m := m) nl z
    have lM : (fun i => mkO e (lfD nd m i)) (lfI nd j).length = mkO e (nd j) := by
      show mkO e (lfD nd m (lfI nd j).length) = _
      rw [lD]
    by_cases c : (qsS nd m).2.2 j = false ∧ nF (nd j) = fl ∧ mkO e (nd j) ≠ 0
    · rw [if_pos c, if_pos ⟨li, by rw [ln]; exact c.1, by rw [lD]; exact c.2.1, by rw [lM]; exact c.2.2⟩, lM]
    · rw [if_neg c, if_neg (fun w => c ⟨by rw [← ln]; exact w.2.1, by rw [← lD]; exact w.2.2.1, by rw [← lM]; exact w.2.2.2⟩)]
  have mls : mlL sp (lfI nd (j + 1)).length = mlL sp (lfI nd j).length ++ (sp (lfI nd j).length).toList := by rw [lfI_s nl]; rfl
  have mks : mkF sp (lfI nd (j + 1)).length = mkF sp (lfI nd j).length ||| (sp (lfI nd j).length).getD 0 := by rw [lfI_s nl]; rfl
  have no : sp (lfI nd j).length = none → mlL sp (lfI nd (j + 1)).length = mlL sp (lfI nd j).length ∧ mkF sp (lfI nd (j + 1)).length = mkF sp (lfI nd j).length := fun w => by
    rw [mls, mks, w]
    exact ⟨List.append_nil _, Nat.or_zero _⟩
  rw [nI_clamp (show j < 2 ^ 31 by omega), b2 56 (by decide) (by decide) (by decide), g7 j z]
  refine ⟨pk_in j 48 (by omega), w_Bn (fun c => ?_) (fun c => ⟨oin, ?_⟩)⟩
  · have w := no (by rw [spj, if_neg (fun w => by rw [c] at w; exact absurd w.1 (by decide))])
    exact go0 w.1 w.2
  rw [b2 41 (by decide) (by decide) (by decide), n2 (by omega)]
  refine w_ne (nF (nd j)) fl (fun c2 => ?_) (fun cf => ?_)
  · have w := no (by rw [spj, if_neg (fun w => c2 w.2.1)])
    exact go0 w.1 w.2
  obtain ⟨K, K20, eK, hT2, hwK⟩ := hx (nF (nd j)) f2'
  have hl' : rLg v' g l := rLg_fr (b1 9 (by decide)) (b1 6 (by decide)) rfl rfl rfl g1
  have hN' : rNd f' g (48 * q + j) (nd j) := by
    refine rNd_cp hNj ?_ ?_ ?_ ?_ ?_ (fun _ _ => rfl) (fun i _ => ?_) (fun i _ => ?_)
    · rw [b2 40 (by decide) (by decide) (by decide)]
    · rw [b2 41 (by decide) (by decide) (by decide)]
    · rw [b2 42 (by decide) (by decide) (by decide)]
    · rw [b2 43 (by decide) (by decide) (by decide)]
    · rw [b2 44 (by decide) (by decide) (by decide)]
    · rw [b2 46 (by decide) (by decide) (by decide)]
    · rw [b2 47 (by decide) (by decide) (by decide)]
  have hP2 : rPl f' g (hd y.1 y.2) (nF (nd j)) K (fun q => g 17 (40 * hd y.1 y.2 + (20 * nF (nd j) + q))) := ⟨⟨by omega, f2'⟩, by rw [b2 18 (by decide) (by decide) (by decide)]; exact eK, K20, fun _ => rfl, hwK⟩
  refine p_marks hl' hS hP2 hN' fo (hG j z) ho hpw (fun f3 s3 => ?_)
  rw [← mkO_cp (d := nd j) K20 hT2]
  have x20 := mkO_lt (d := nd j) hx f2'
  by_cases cm : mkO e (nd j) = 0
  · have w := no (by rw [spj, if_neg (fun w => w.2.2 cm)])
    exact go f3 _ s3 x20 (by rw [w.1, if_pos cm, List.append_nil]) (by rw [w.2, cm, Nat.or_zero])
  · have w : sp (lfI nd j).length = some (mkO e (nd j)) := by rw [spj, if_pos ⟨c, cf, cm⟩]
    exact go f3 _ s3 x20 (by rw [mls, w, if_neg cm]; rfl) (by rw [mks, w]; rfl)
end PA
