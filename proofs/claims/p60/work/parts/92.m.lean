/-! the relation built anew -/
section LM6
variable {S T V : cS} {ρ ρ' : Nat → Nat} {dp x made made' dn dn' k : Nat} {ar : Nat → Nat} {sl sl' : Nat → List Nat} {BL BL' : List Nat} {ix ix' : Vw} {mg mg' : Option (Vw × Nat)} {cm cm' pr pr' : Option Vw} {sn sn' : List (Nat × Vw)} {o1 o2 o1' o2' : Option (Nat × Vw)} {op op' fi fi' w w' : Nat} {cc cc' : Option Nat} {off off' ad : Bool} {H : List (Nat × Nat)} {sk tk : Nat} {CL : List (Nat × Nat × Nat)} {u : Nat} {R : List (Nat × Nat)} {cd dd cd' dd' : Nat}
theorem R6_k (hm : cd' ≤ cd + 1600) (hs : dd' ≤ dd + 16000) (h : R6 k S dp x ar cd dd) : R6 (k + 1) S dp x ar cd' dd' := by
  obtain ⟨ρ, ad, dn, made, sl, BL, ix, mg, cm, pr, sn, o1, o2, op, fi, w, cc, off, H, sk, tk, CL, u, R, hL, hC, hI, hT, hP, hF, hc1, hc2⟩ := h
  exact ⟨ρ, ad, dn, made, sl, BL, ix, mg, cm, pr, sn, o1, o2, op, fi, w, cc, off, H, sk, tk, CL, u, R, hL, hC, hI, hT, pI_k (Nat.le_succ k) (fun _ c => c) hP, ⟨hF.1, hF.2.1, hF.2.2.1, by have := hF.2.2.2; omega⟩, by omega, by omega⟩
theorem R6_bd {a b : Nat} (hk : k ≤ 250) (ha : a ≤ 2000) (hb : b ≤ 20000) (h : R6 k S dp x ar cd dd) : cd + a ≤ 500000 ∧ dd + b ≤ 5000000 := by
  obtain ⟨ρ, ad, dn, made, sl, BL, ix, mg, cm, pr, sn, o1, o2, op, fi, w, cc, off, H, sk, tk, CL, u, R, hL, hC, hI, hT, hP, hF, hc1, hc2⟩ := h
  omega
theorem R6_I (hL : cL6 ad S ρ x) (hC : C6 S ρ dp x made sl BL ix mg cm pr sn op fi w cc off H sk tk CL u) (hT : tg6 ρ ar) (wV : fr S V ρ ρ [90]) (e : evI V T ρ ρ' x) (gT : ∃ so sd, gIx T ρ' dp x so sd (sgR sl') made' (BL'.map dcR) ix' mg' cm' pr' sn' op' fi' w' cc' off') (hM : ixM made' ix' mg' cm' pr' sn') (iV : I6 V ar dn' made' sl' BL' ix' mg' cm' pr' o1' o2' op' fi' w' cc' off' H sk tk R) (hP : pI (k + 1) WL6 l6 ad (sgR sl') made' (BL'.map dcR) ix' mg' cm' pr' sn' (slO o1' o2') op' cc' off') (hF : pF k made qs6 3 1 CL u R) (hmd : made ≤ made') (hsl : ∀ n, n < made → sl' n = sl n) (h1 : cd' + 610 * (BL'.length + mgC mg') ≤ 10000 + 1600 * (k + 1)) (h2 : dd' + 7000 * (BL'.length + mgC mg') ≤ 100000 + 16000 * (k + 1)) : R6 (k + 1) T dp x ar cd' dd' := by
  obtain ⟨hx, hρ⟩ := C6_x hC
  obtain ⟨hxV, hρV⟩ := C6_x (C6_fr wV (by decide) hC)
  have hLV := cL6_fr wV (by decide) hx hρ hL
  obtain ⟨-, -, ⟨nd, a3⟩, a4, a5, a6⟩ := C6_fr wV (by decide) hC
  obtain ⟨eF, er, ex⟩ := id e
  obtain ⟨gR, gt, eI, eJ⟩ := I6_rows iV.1 hT eF (by decide)
  have hsg : ∀ y, y ∈ CL → sgR sl' y.2.1 = sgR sl y.2.1 := fun y hy => by
    unfold sgR
    rw [hsl _ (hF.2.2.1 y hy).2]
  have LT : cL6 ad T ρ' x := by
    obtain ⟨P, c0, c1, n0, P0, n1, P1, g⟩ := hLV
    exact ⟨P, c0, c1, n0, P0, n1, P1, gLD_f eF (by decide) ex (fun q hq => er q (by rcases hq with rfl | rfl <;> decide)) g⟩
  refine ⟨ρ', ad, dn', made', sl', BL', ix', mg', cm', pr', sn', o1', o2', op', fi', w', cc', off', H, sk, tk, CL, u, R, LT, ⟨gT, hM, ⟨nd, gPr_f eF (by decide) (by decide) (by decide) (er _ (by decide)) a3⟩, gQl_f eF (by decide) (by decide) (by decide) (er _ (by decide)) a4, gRd_f eF (by decide) (er _ (by decide)) a5, gFn_ext (mbQ_sg hsg) (gFn_f eF (by decide) (er _ (by decide)) (er _ (by decide)) a6)⟩, I6_eq gR eI eJ iV, gt, hP, ⟨hF.1, hF.2.1, fun y hy => ⟨(hF.2.2.1 y hy).1, Nat.lt_of_lt_of_le (hF.2.2.1 y hy).2 hmd⟩, by have := hF.2.2.2; omega⟩, h1, h2⟩
theorem R6_D {fd : Nat} {lv' : Nat → Nat → Bool} (hL : cL6 ad S ρ x) (hC : C6 S ρ dp x made sl BL ix mg cm pr sn op fi w cc off H sk tk CL u) (hT : tg6 ρ ar) (wV : fr S V ρ ρ [90]) (hfd : gFd V ρ x fd) (e : evD V T ρ ρ' x fd) (gT : ∃ so sd, gIx T ρ' dp x so sd (sgR sl') made' [] ([], lv') none cm none [] op fi w' none true) (hcm : ovM made' cm) (iV : I6 V ar dn' made' sl' [] ([], lv') none cm none none none op fi w' none true [] 0 0 []) (hP : pI (k + 1) WL6 l6 ad (sgR sl') made' [] ([], lv') none cm none [] (slO none none) op none true) (hF : pF k made qs6 3 1 CL u R) (h1 : cd' ≤ 10000 + 1600 * (k + 1)) (h2 : dd' ≤ 100000 + 16000 * (k + 1)) : R6 (k + 1) T dp x ar cd' dd' := by
  obtain ⟨hx, hρ⟩ := C6_x hC
  have hLV := cL6_fr wV (by decide) hx hρ hL
  obtain ⟨-, -, ⟨nd, a3⟩, a4, a5, a6⟩ := C6_fr wV (by decide) hC
  have dF := gFn_d (mb' := mbQ qs6 (sgR sl')) (sg' := sgR sl') hfd.1 e a6
  obtain ⟨eF, er, ⟨ex, -⟩, -⟩ := e
  obtain ⟨gR, gt, eI, eJ⟩ := I6_rows iV.1 hT eF (by decide)
  have LT : cL6 ad T ρ' x := by
    obtain ⟨P, c0, c1, n0, P0, n1, P1, g⟩ := hLV
    exact ⟨P, c0, c1, n0, P0, n1, P1, gLD_f eF (by decide) ex (fun q hq => er q (by rcases hq with rfl | rfl <;> decide)) g⟩
  have hM : ixM made' ([], lv') none cm none [] := ⟨fun n hn => absurd hn List.not_mem_nil, fun w e => absurd e (by simp), hcm, fun w e => absurd e (by simp), fun s hs => absurd hs List.not_mem_nil⟩
  refine ⟨ρ', ad, dn', made', sl', [], ([], lv'), none, cm, none, [], none, none, op, fi, w', none, true, [], 0, 0, [], u, [], LT, ⟨gT, hM, ⟨nd, gPr_f eF (by decide) (by decide) (by decide) (er _ (by decide)) a3⟩, gQl_f eF (by decide) (by decide) (by decide) (er _ (by decide)) a4, gRd_f eF (by decide) (er _ (by decide)) a5, dF⟩, I6_eq gR eI eJ iV, gt, hP, ⟨hF.1, ⟨[], List.Perm.refl _, rfl, List.Pairwise.nil, fun x hx => absurd hx List.not_mem_nil, List.nodup_nil, Nat.zero_le _⟩, fun y hy => absurd hy List.not_mem_nil, by have := hF.2.2.2; omega⟩, by show cd' + 610 * (0 + 0) ≤ _; omega, by show dd' + 7000 * (0 + 0) ≤ _; omega⟩
/-- what is left when the machine is DOWN -/
theorem pI_D {lv' : Nat → Nat → Bool} {sg : Nat → List Dc} {B : List Dc} (h : pI k WL6 l6 ad sg made B ix mg cm pr sn (slO o1 o2) op cc off) : pI (k + 1) WL6 l6 ad sg made [] ([], lv') none cm none [] (slO none none) op none true := by
  obtain ⟨⟨p1, p2, p3, p4, p5⟩, p6, p7, ⟨p8, p8b, p8c, p8d⟩, p9, p10, p11, p12, p13, p14⟩ := h
  refine ⟨⟨⟨List.nodup_nil, fun key n j d n' j' d' h => absurd h List.not_mem_nil⟩, fun s c e => absurd e (by simp), p3, fun s e => absurd e (by simp), fun s hs => absurd hs List.not_mem_nil⟩, ⟨fun i i' d d' hi => absurd (get_lt hi) (Nat.not_lt_zero i), fun d hd => absurd hd List.not_mem_nil⟩, fun s c e => absurd e (by simp), ⟨List.Perm.refl _, List.nodup_nil, fun s hs => absurd hs List.not_mem_nil, by omega⟩, fun _ => ⟨rfl, rfl, rfl, rfl, rfl⟩, fun j e => absurd e (by simp), fun z => ⟨rfl, (p11 z).2⟩, ⟨p12.1, fun d hd => absurd hd List.not_mem_nil⟩, p13, p14.1, ?_⟩
  have := p14.2
  show smN (fun n => (sg n).length) made + 0 + 0 ≤ k + 1
  omega
theorem I6_D {lv' : Nat → Nat → Bool} (g : I6 S ar dn made sl BL ix mg cm pr o1 o2 op fi w cc off H sk tk R) (h : lDw S V (ar 15) (ar 8) (ar 9) (ar 10) w') : I6 V ar dn made sl [] ([], lv') none cm none none none op fi w' none true [] 0 0 [] := by
  obtain ⟨g1, g2, g3, g4, g5, g6, ⟨g7, g8, g9, g10⟩, g11, g12, g13⟩ := g
  obtain ⟨wV, oV, ⟨m4, m6, m1, m3, m9, m13, m14, m15, m16⟩, p0, q0, g0⟩ := h
  have w' : lwT S V ([15, 8, 9, 10].map ar) := wV
  have gV := lR_w wV g1
  have eI : ∀ i, okX i [15, 8, 9, 10] = true → cI V (ar i) = cI S (ar i) := fun i hi => lwI g1 w' i hi
  have eJ : ∀ i, okX i [15, 8, 9, 10] = true → cJ V (ar i) = cJ S (ar i) := fun i hi => lwJ g1 w' i hi
  have emp : ∀ i, i < 16 → cA V (ar i) 14 ∧ cn V (ar i) = 64 → cI V (ar i) 0 = nI 0 → lOf V (ar i) made sl 0 ([], fun _ _ => true) := fun i hi h1 h2 => ⟨h1, ⟨h2, by decide⟩, fun c => absurd c (by decide)⟩
  refine ⟨gV, lSeg_eq (gV.1 0 (by decide)) (gV.1 2 (by decide)) (gV.1 3 (by decide)) (eJ 0 rfl) (eJ 2 rfl) (eI 3 rfl) g2, ⟨⟨(oV 0 (by decide)).trans g3.1.1, by have := g3.1.2; show dn + 0 ≤ 60; omega⟩, ⟨(oV 2 (by decide)).trans g3.2.1.1, g3.2.1.2⟩, g3.2.2.1, fun a ha => absurd ha List.not_mem_nil⟩, ⟨m1, Nat.zero_le _, fun i a hi => absurd (get_lt hi) (Nat.not_lt_zero i)⟩, ⟨⟨m3, Nat.zero_le _⟩, fun k n hk => absurd (get_lt hk) (Nat.not_lt_zero k), fun n hn => absurd hn List.not_mem_nil⟩, ⟨m9, fun s c e => absurd e (by simp)⟩, ⟨lOf_eq (gV.1 7 (by decide)) (eI 7 rfl) g7, ⟨gV.1 8 (by decide), ⟨p0, by decide⟩, fun c => absurd c (by decide)⟩, emp 9 (by decide) (gV.1 9 (by decide)) q0, emp 10 (by decide) (gV.1 10 (by decide)) g0⟩, ⟨fun n hn => absurd hn List.not_mem_nil, fun p e => absurd e (by simp)⟩, ⟨m4, fun c => absurd c (by decide), m6, (oV 7 (by decide)).trans g12.2.2.2.1, (oV 8 (by decide)).trans g12.2.2.2.2⟩, ⟨m14, Nat.zero_le _, fun i x hx => absurd (get_lt hx) (Nat.not_lt_zero i)⟩, m15, m16, m13, Nat.zero_le _, fun i y hy => absurd (get_lt hy) (Nat.not_lt_zero i)⟩
end LM6
