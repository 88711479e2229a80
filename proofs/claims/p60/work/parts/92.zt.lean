/-! the case of finding -/
section LZV
variable {S T U : cS} {ρ ρ' : Nat → Nat} {dp x k cd dd made dn : Nat} {ar : Nat → Nat} {sl : Nat → List Nat} {BL : List Nat} {ix : Vw} {mg : Option (Vw × Nat)} {cm pr : Option Vw} {sn : List (Nat × Vw)} {o1 o2 : Option (Nat × Vw)} {op fi w : Nat} {cc : Option Nat} {off ad : Bool} {H H' : List (Nat × Nat)} {sk sk' tk tk' : Nat} {R R' : List (Nat × Nat)} {CL : List (Nat × Nat × Nat)} {u : Nat}
theorem I6_find (g : I6 S ar dn made sl BL ix mg cm pr o1 o2 op fi w cc off H sk tk R) (gR : lRow T ar) (eI : ∀ i, i < 16 → i ≠ 11 → i ≠ 12 → i ≠ 15 → cI T (ar i) = cI S (ar i)) (eJ : ∀ i, i < 16 → i ≠ 11 → i ≠ 12 → i ≠ 15 → cJ T (ar i) = cJ S (ar i)) (oT : rO S T (ar 15) [13, 14, 15, 16]) (hf : lFi6 T (ar 11) (ar 12) (ar 15) H' sk' tk' R') : I6 T ar dn made sl BL ix mg cm pr o1 o2 op fi w cc off H' sk' tk' R' := by
  obtain ⟨g1, g2, g3, g4, g5, g6, ⟨g7, g8, g9, g10⟩, g11, g12, g13⟩ := g
  refine ⟨gR, lSeg_eq (gR.1 0 (by decide)) (gR.1 2 (by decide)) (gR.1 3 (by decide)) (eJ 0 (by decide) (by decide) (by decide) (by decide)) (eJ 2 (by decide) (by decide) (by decide) (by decide)) (eI 3 (by decide) (by decide) (by decide) (by decide)) g2, sz_w oT rfl g3, ⟨(oT 1 (by decide)).trans g4.1, g4.2.1, fun i a hi => by rw [eJ 1 (by decide) (by decide) (by decide) (by decide)]; exact g4.2.2 i a hi⟩, ⟨⟨(oT 3 (by decide)).trans g5.1.1, g5.1.2⟩, fun i n hi => by rw [eI 6 (by decide) (by decide) (by decide) (by decide)]; exact g5.2.1 i n hi, fun n hn => by rw [eI 4 (by decide) (by decide) (by decide) (by decide)]; exact g5.2.2 n hn⟩, ⟨(oT 9 (by decide)).trans g6.1, fun s c e => ?_⟩, ⟨lOf_eq (gR.1 7 (by decide)) (eI 7 (by decide) (by decide) (by decide) (by decide)) g7, lOf_eq (gR.1 8 (by decide)) (eI 8 (by decide) (by decide) (by decide) (by decide)) g8, lOf_eq (gR.1 9 (by decide)) (eI 9 (by decide) (by decide) (by decide) (by decide)) g9, lOf_eq (gR.1 10 (by decide)) (eI 10 (by decide) (by decide) (by decide) (by decide)) g10⟩, ?_, nm_w oT rfl g12, hf⟩
  · obtain ⟨⟨p, e1, e2, e3⟩, e4, e5, e6, e7, e8⟩ := g6.2 s c e
    exact ⟨⟨p, (oT 10 (by decide)).trans e1, e2, e3⟩, (oT 11 (by decide)).trans e4, (oT 12 (by decide)).trans e5, e6, e7, fun i z hz => by rw [eI 13 (by decide) (by decide) (by decide) (by decide)]; exact e8 i z hz⟩
  · unfold lWr6
    rw [eI 5 (by decide) (by decide) (by decide) (by decide), eI 14 (by decide) (by decide) (by decide) (by decide)]
    exact g11
theorem q_hits {Q : Int32 → cS → Prop} {mc ms cd dd : Nat} {mb : Nat → Nat → Nat → Bool} {sg : Nat → List Dc} (hbd : cd ≤ mc ∧ dd ≤ ms) (hx : cA S x 11) (gF : gFn S ρ x H sk tk CL u mb sg) (gR : lRow S ar) (hH : lHt S (ar 12) (ar 15) H) (h : Q (nI 1) S) : k_L_isFound_92L Q dp mc ms x (ar 12) (ar 15) (nI 1) (nI 0) cd dd S := by
  obtain ⟨h1, h2, h3⟩ := hH
  unfold k_L_isFound_92L
  refine lfp_cnt H.length (fun i y => y = (x, ar 12, ar 15, nI 1, nI i, cd, dd, S)) ?_ rfl
  rintro P i _ hi rfl ih
  show k_L_isFound_92 Q dp mc ms _ x (ar 12) (ar 15) (nI 1) (nI i) cd dd S
  unfold k_L_isFound_92
  rw [nI_x 14 (by decide), h1]
  refine ⟨lR_X gR (i := 15) (by decide) (by decide), pk_le H.length i (fun c => ⟨hbd, ⟨true, rfl⟩, h⟩) (fun c => ⟨fun z => absurd z (by decide), fun _ => ⟨hx, hbd, ?_⟩⟩)⟩
  obtain ⟨y, hy⟩ : ∃ y, H[i]? = some y := ⟨_, List.getElem?_eq_getElem c⟩
  obtain ⟨e1, e2, -⟩ := h3 i y hy
  refine g_hitAt hx gF hy ?_
  rw [nI_x i (by omega), e1]
  refine ⟨lR_X gR (i := 12) (by decide) (show i < 40 by omega), fun z => absurd rfl z, fun _ => ⟨hx, hbd, g_rankAt hx gF hy ?_⟩⟩
  rw [nI_add, nI_x (20 + i) (by omega), e2]
  refine ⟨lR_X gR (i := 12) (by decide) (show 20 + i < 40 by omega), fun z => absurd rfl z, fun _ => ?_⟩
  unfold k_L_isFound_143
  rintro _ rfl
  rw [nI_add]
  exact ih _ c rfl
theorem q_found9 {Q : Nat → Nat → Int32 → cS → Prop} {t : Nat} (h : R6 k S dp x ar cd dd) (hk : k ≤ 250) (ht : t < 10000000) (hq : ¬ cI S (ar 9) (nI 0).toNatClampNeg ≤ 0) (hQ : ∀ m1 m2 T, cd + m1 ≤ 500000 → dd + m2 ≤ 5000000 → R6 (k + 1) T dp x ar (cd + m1) (dd + m2) → cI T (ar 9) = cI S (ar 9) → cI T (ar 10) = cI S (ar 10) → Q m1 m2 (bI true) T) : ∃ m1 m2, cd + m1 ≤ 500000 ∧ dd + m2 ≤ 5000000 ∧ k_L_isFound (Q m1 m2) dp m1 m2 x (ar 0) (ar 2) (ar 3) (ar 9) (ar 11) (ar 12) (ar 15) (nI t) S := by
  have bd := R6_bd hk (a := 1) (b := 9) (by decide) (by decide) h
  obtain ⟨ρ, ad, dn, made, sl, BL, ix, mg, cm, pr, sn, o1, o2, op, fi, w, cc, off, H, sk, tk, CL, u, R, hL, hC, hI, hT, hP, hF, hc1, hc2⟩ := id h
  obtain ⟨g1, g2, g3, g4, g5, g6, ⟨g7, g8, g9, g10⟩, g11, g12, g13⟩ := id hI
  obtain ⟨⟨p1, p2, p3, p4, p5⟩, p6, p7, ⟨p8, p8b, p8c, p8d⟩, p9, p10, p11, p12, p13, p14, p15⟩ := id hP
  have hm27 := g3.2.1.2
  have hy : t % 9 < 9 := Nat.mod_lt _ (by decide)
  have hmo : t / 9 % 4 < 4 := Nat.mod_lt _ (by decide)
  rw [nI_x 0 (by decide)] at hq
  cases o1 with
  | none => exact absurd (by rw [g9.2.1.1]; decide) hq
  | some s =>
    have hs : s ∈ sn := (sn_ex p8).mpr ⟨0, by decide, rfl⟩
    have gv := g9.2.2 (Nat.succ_pos s.1)
    have a2 := hC.2.1
    have hsM : vwM made s.2 := a2.2.2.2.2 s hs
    have h10 : ∀ n, n ∈ s.2.1 → (sl n).length ≤ 10 := fun n hn => (g2.2.2 n (hsM n hn)).2.1
    obtain ⟨e, he⟩ : ∃ e, qs6[t % 9]? = some e := ⟨_, List.getElem?_eq_getElem (show t % 9 < 9 from hy)⟩
    have hok : fiOk (sgR sl) made sn qs6 3 1 := fi_ok hm27 (fun n hn => (g2.2.2 n hn).2.1) (fun q hq' => ⟨Nat.le_trans (nd_lt (p5 q hq').1 (a2.2.2.2.2 q hq')) hm27, a2.2.2.2.2 q hq'⟩)
    refine ⟨1, 9, bd.1, bd.2, ?_⟩
    unfold k_L_isFound
    rw [i_mod (by omega) (by decide) (by decide)]
    rintro _ rfl
    have e9 : nI t / nI 9 = nI (t / 9) := pk_div (by omega) (by decide) (by decide)
    have m9 : nI (t / 9) - nI (t / 9) / nI 4 * nI 4 = nI (t / 9 % 4) := i_mod (by omega) (by decide) (by decide)
    rw [e9, m9, nI_add]
    rintro _ rfl
    have ne : ∀ i j, i < 16 → j < 16 → i ≠ j → ar i ≠ ar j := fun i j hi hj hn => lR_ne g1 hi hj hn
    have nin : ∀ i, i < 16 → i ≠ 11 → i ≠ 12 → i ≠ 15 → ar i ∉ [ar 11, ar 12, ar 15] := fun i hi h1 h2 h3 c => by
      simp only [List.mem_cons, List.not_mem_nil, or_false] at c
      rcases c with c | c | c
      · exact ne i 11 hi (by decide) h1 c
      · exact ne i 12 hi (by decide) h2 c
      · exact ne i 15 hi (by decide) h3 c
    refine ⟨1, 9, by omega, by omega, q_L_find g2 gv (g1.1 11 (by decide)) (g1.1 12 (by decide)) (g1.1 15 (by decide)) (fun a ha => ?_) (ne 11 12 (by decide) (by decide) (by decide)) (ne 11 15 (by decide) (by decide) (by decide)) (ne 12 15 (by decide) (by decide) (by decide)) hy ⟨by omega, by omega⟩ ⟨by omega, by omega⟩ g13.2.2.2 (fun T r' sT oT tT cT t16 hHT t15 => ?_)⟩
    · simp only [List.mem_cons, List.not_mem_nil, or_false] at ha
      rcases ha with rfl | rfl | rfl | rfl <;> exact nin _ (by decide) (by decide) (by decide) (by decide)
    · have fT : fr S T ρ ρ [90] := fr_sub sT (fun a ha => by
        simp only [List.mem_cons, List.not_mem_nil, or_false] at ha
        rcases ha with rfl | rfl | rfl <;> exact hT _ (by decide))
      have gRT : lRow T ar := ⟨fun i hi => ⟨sub_A1 sT (g1.1 i hi).1, (sub_cn sT (g1.1 i hi).1).trans (g1.1 i hi).2⟩, g1.2⟩
      have eI : ∀ i, i < 16 → i ≠ 11 → i ≠ 12 → i ≠ 15 → cI T (ar i) = cI S (ar i) := fun i hi h1 h2 h3 => sub_cI sT (g1.1 i hi).1 (nin i hi h1 h2 h3)
      have eJ : ∀ i, i < 16 → i ≠ 11 → i ≠ 12 → i ≠ 15 → cJ T (ar i) = cJ S (ar i) := fun i hi h1 h2 h3 => sub_cJ sT (g1.1 i hi).1 (nin i hi h1 h2 h3)
      have iT := I6_find hI gRT eI eJ oT ⟨hHT, t15, t16, cT⟩
      have hCT := C6_fr fT (by decide) hC
      obtain ⟨hx0, hρ0⟩ := C6_x hC
      have hLT := cL6_fr fT (by decide) hx0 hρ0 hL
      obtain ⟨hxT, hρT⟩ := C6_x hCT
      obtain ⟨⟨so, sd, a1⟩, -, ⟨nd, a3⟩, a4, a5, a6⟩ := id hCT
      have hu : u < 2 ^ 29 := by have := hF.2.2.2; omega
      have e0 : cI T (ar 9) (nI 0).toNatClampNeg - nI 1 = nI s.1 := by
        rw [nI_x 0 (by decide), eI 9 (by decide) (by decide) (by decide) (by decide), g9.2.1.1]
        show nI (s.1 + 1) - nI 1 = nI s.1
        rw [pk_sub (by omega)]
        rfl
      rw [e0]
      refine ⟨lR_X gRT (i := 9) (by decide) (by decide), hxT, ⟨by omega, by omega⟩, g_find a1 a2 a4 a5 a6 hok ⟨s, hs, rfl⟩ he ⟨by omega, by omega⟩ hu (by omega) (fun U s2 c hs2 ex2 fU gRU gFU hca => ?_)⟩
      have e1 : s2 = s := sn_uq p8b hs2 hs ((nI_eq (by have := p8c s2 hs2; omega) (by have := p8c s hs; omega)).mp ex2)
      subst e1
      have esr := sr_lr (v := s2.2) (mo := 1 + t / 9 % 4) hy h10 he s2.2.1.length
      rw [esr] at gFU ⊢
      obtain ⟨k1, k2, k3, k4⟩ := caR_tkR hF.2.1 _ _ _ hca tT
      have xU : ∀ q, cr U q x = cr T q x := fun q => fr_cr fU.1 hxT (by rw [hρT]; decide)
      have xUi : ∀ q, ci U q x = ci T q x := fun q => fr_ci fU.1 hxT (by rw [hρT]; decide)
      have h18 : ∀ a, a ∈ cL T → ρ a = 18 → ρ a = 18 := fun a _ z => z
      have hxU : cA U x 11 := fr_A fU.1 hxT
      have gI := gIx_fk fU (by decide) a2 hρT (fun q _ => xU q) (fun q _ => xUi q) a1
      have gP : gPr U ρ dp x 0 nd := by
        obtain ⟨q, e, gq⟩ := a3
        exact ⟨q, (xU _).trans e, gQy_fr fU.1 (by decide) (by decide) h18 gq⟩
      have gQ : gQl U ρ dp x qs6 := by
        obtain ⟨ql, l, lm, e, y1, y2, y3, y4, y5⟩ := a4
        obtain ⟨z1, z2⟩ := fr_ls fU.1 (by decide) y1 y2
        exact ⟨ql, l, lm, (xU _).trans e, z1, z2, y3, y4, parL_imp (fun q e g => gQy_fr fU.1 (by decide) (by decide) h18 g) y5⟩
      have gL : cL6 ad U ρ x := by
        obtain ⟨P, c0, c1, n0, P0, n1, P1, g⟩ := hLT
        exact ⟨P, c0, c1, n0, P0, n1, P1, gLD_f fU.1 (by decide) hρT (fun q _ => xU q) g⟩
      obtain ⟨gRU', tU, uI, uJ⟩ := I6_rows iT.1 hT fU.1 (by decide)
      have iU := I6_eq gRU' uI uJ iT
      have lsv : s2.2.1.length ≤ 27 := Nat.le_trans (nd_lt (p5 s2 hs2).1 hsM) hm27
      have hR : R6 (k + 1) U dp x ar (cd + 1) (dd + 9) := ⟨ρ, ad, dn, made, sl, BL, ix, mg, cm, pr, sn, some s2, o2, op, fi, w, cc, off, _, _, _, c.1, c.2.1, r'.1, gL, ⟨⟨so, sd, gI⟩, a2, ⟨nd, gP⟩, gQ, gRU, by rw [k2] at gFU; exact gFU⟩, iU, tU, pI_k (Nat.le_succ k) (fun _ c => c) hP, ⟨hF.1, k1, fun z hz => by
          rcases k4 z hz with w1 | ⟨w1, w2⟩
          · exact hF.2.2.1 z w1
          · exact ⟨by rw [w1]; exact hy, hsM _ w2⟩, by rw [k3]; have := hF.2.2.2; omega⟩, by omega, by omega⟩
      have iF := iU.2.2.2.2.2.2.2.2.2
      obtain ⟨f1, f2, f3, f4⟩ := iF
      have c15 := fun (q : Nat) (hq : q < 17) => lR_X gRU' (i := 15) (by decide) (show q < lLn 15 from hq)
      rw [nI_x 14 (by decide), f1.1]
      refine ⟨c15 14 (by decide), fun z => absurd rfl z, fun _ => ⟨hxU, ⟨by omega, by omega⟩, g_skipped hxU gFU ?_⟩⟩
      rw [nI_x 15 (by decide), f2]
      refine ⟨c15 15 (by decide), fun z => absurd rfl z, fun _ => ⟨hxU, ⟨by omega, by omega⟩, g_cached hxU gFU ?_⟩⟩
      rw [nI_x 16 (by decide), f3, k2]
      refine ⟨c15 16 (by decide), fun z => absurd rfl z, fun _ => ?_⟩
      unfold k_L_isFound_87
      exact q_hits ⟨by omega, by omega⟩ hxU gFU gRU' f1 (hQ 1 9 U bd.1 bd.2 hR ((uI 9 (by decide)).trans (eI 9 (by decide) (by decide) (by decide) (by decide))) ((uI 10 (by decide)).trans (eI 10 (by decide) (by decide) (by decide) (by decide))))
theorem q_found10 {Q : Nat → Nat → Int32 → cS → Prop} {t : Nat} (h : R6 k S dp x ar cd dd) (hk : k ≤ 250) (ht : t < 10000000) (hq : ¬ cI S (ar 10) (nI 0).toNatClampNeg ≤ 0) (hQ : ∀ m1 m2 T, cd + m1 ≤ 500000 → dd + m2 ≤ 5000000 → R6 (k + 1) T dp x ar (cd + m1) (dd + m2) → cI T (ar 9) = cI S (ar 9) → cI T (ar 10) = cI S (ar 10) → Q m1 m2 (bI true) T) : ∃ m1 m2, cd + m1 ≤ 500000 ∧ dd + m2 ≤ 5000000 ∧ k_L_isFound (Q m1 m2) dp m1 m2 x (ar 0) (ar 2) (ar 3) (ar 10) (ar 11) (ar 12) (ar 15) (nI t) S := by
  have bd := R6_bd hk (a := 1) (b := 9) (by decide) (by decide) h
  obtain ⟨ρ, ad, dn, made, sl, BL, ix, mg, cm, pr, sn, o1, o2, op, fi, w, cc, off, H, sk, tk, CL, u, R, hL, hC, hI, hT, hP, hF, hc1, hc2⟩ := id h
  obtain ⟨g1, g2, g3, g4, g5, g6, ⟨g7, g8, g9, g10⟩, g11, g12, g13⟩ := id hI
  obtain ⟨⟨p1, p2, p3, p4, p5⟩, p6, p7, ⟨p8, p8b, p8c, p8d⟩, p9, p10, p11, p12, p13, p14, p15⟩ := id hP
  have hm27 := g3.2.1.2
  have hy : t % 9 < 9 := Nat.mod_lt _ (by decide)
  have hmo : t / 9 % 4 < 4 := Nat.mod_lt _ (by decide)
  rw [nI_x 0 (by decide)] at hq
  cases o2 with
  | none => exact absurd (by rw [g10.2.1.1]; decide) hq
  | some s =>
    have hs : s ∈ sn := (sn_ex p8).mpr ⟨1, by decide, rfl⟩
    have gv := g10.2.2 (Nat.succ_pos s.1)
    have a2 := hC.2.1
    have hsM : vwM made s.2 := a2.2.2.2.2 s hs
    have h10 : ∀ n, n ∈ s.2.1 → (sl n).length ≤ 10 := fun n hn => (g2.2.2 n (hsM n hn)).2.1
    obtain ⟨e, he⟩ : ∃ e, qs6[t % 9]? = some e := ⟨_, List.getElem?_eq_getElem (show t % 9 < 9 from hy)⟩
    have hok : fiOk (sgR sl) made sn qs6 3 1 := fi_ok hm27 (fun n hn => (g2.2.2 n hn).2.1) (fun q hq' => ⟨Nat.le_trans (nd_lt (p5 q hq').1 (a2.2.2.2.2 q hq')) hm27, a2.2.2.2.2 q hq'⟩)
    refine ⟨1, 9, bd.1, bd.2, ?_⟩
    unfold k_L_isFound
    rw [i_mod (by omega) (by decide) (by decide)]
    rintro _ rfl
    have e9 : nI t / nI 9 = nI (t / 9) := pk_div (by omega) (by decide) (by decide)
    have m9 : nI (t / 9) - nI (t / 9) / nI 4 * nI 4 = nI (t / 9 % 4) := i_mod (by omega) (by decide) (by decide)
    rw [e9, m9, nI_add]
    rintro _ rfl
    have ne : ∀ i j, i < 16 → j < 16 → i ≠ j → ar i ≠ ar j := fun i j hi hj hn => lR_ne g1 hi hj hn
    have nin : ∀ i, i < 16 → i ≠ 11 → i ≠ 12 → i ≠ 15 → ar i ∉ [ar 11, ar 12, ar 15] := fun i hi h1 h2 h3 c => by
      simp only [List.mem_cons, List.not_mem_nil, or_false] at c
      rcases c with c | c | c
      · exact ne i 11 hi (by decide) h1 c
      · exact ne i 12 hi (by decide) h2 c
      · exact ne i 15 hi (by decide) h3 c
    refine ⟨1, 9, by omega, by omega, q_L_find g2 gv (g1.1 11 (by decide)) (g1.1 12 (by decide)) (g1.1 15 (by decide)) (fun a ha => ?_) (ne 11 12 (by decide) (by decide) (by decide)) (ne 11 15 (by decide) (by decide) (by decide)) (ne 12 15 (by decide) (by decide) (by decide)) hy ⟨by omega, by omega⟩ ⟨by omega, by omega⟩ g13.2.2.2 (fun T r' sT oT tT cT t16 hHT t15 => ?_)⟩
    · simp only [List.mem_cons, List.not_mem_nil, or_false] at ha
      rcases ha with rfl | rfl | rfl | rfl <;> exact nin _ (by decide) (by decide) (by decide) (by decide)
    · have fT : fr S T ρ ρ [90] := fr_sub sT (fun a ha => by
        simp only [List.mem_cons, List.not_mem_nil, or_false] at ha
        rcases ha with rfl | rfl | rfl <;> exact hT _ (by decide))
      have gRT : lRow T ar := ⟨fun i hi => ⟨sub_A1 sT (g1.1 i hi).1, (sub_cn sT (g1.1 i hi).1).trans (g1.1 i hi).2⟩, g1.2⟩
      have eI : ∀ i, i < 16 → i ≠ 11 → i ≠ 12 → i ≠ 15 → cI T (ar i) = cI S (ar i) := fun i hi h1 h2 h3 => sub_cI sT (g1.1 i hi).1 (nin i hi h1 h2 h3)
      have eJ : ∀ i, i < 16 → i ≠ 11 → i ≠ 12 → i ≠ 15 → cJ T (ar i) = cJ S (ar i) := fun i hi h1 h2 h3 => sub_cJ sT (g1.1 i hi).1 (nin i hi h1 h2 h3)
      have iT := I6_find hI gRT eI eJ oT ⟨hHT, t15, t16, cT⟩
      have hCT := C6_fr fT (by decide) hC
      obtain ⟨hx0, hρ0⟩ := C6_x hC
      have hLT := cL6_fr fT (by decide) hx0 hρ0 hL
      obtain ⟨hxT, hρT⟩ := C6_x hCT
      obtain ⟨⟨so, sd, a1⟩, -, ⟨nd, a3⟩, a4, a5, a6⟩ := id hCT
      have hu : u < 2 ^ 29 := by have := hF.2.2.2; omega
      have e0 : cI T (ar 10) (nI 0).toNatClampNeg - nI 1 = nI s.1 := by
        rw [nI_x 0 (by decide), eI 10 (by decide) (by decide) (by decide) (by decide), g10.2.1.1]
        show nI (s.1 + 1) - nI 1 = nI s.1
        rw [pk_sub (by omega)]
        rfl
      rw [e0]
      refine ⟨lR_X gRT (i := 10) (by decide) (by decide), hxT, ⟨by omega, by omega⟩, g_find a1 a2 a4 a5 a6 hok ⟨s, hs, rfl⟩ he ⟨by omega, by omega⟩ hu (by omega) (fun U s2 c hs2 ex2 fU gRU gFU hca => ?_)⟩
      have e1 : s2 = s := sn_uq p8b hs2 hs ((nI_eq (by have := p8c s2 hs2; omega) (by have := p8c s hs; omega)).mp ex2)
      subst e1
      have esr := sr_lr (v := s2.2) (mo := 1 + t / 9 % 4) hy h10 he s2.2.1.length
      rw [esr] at gFU ⊢
      obtain ⟨k1, k2, k3, k4⟩ := caR_tkR hF.2.1 _ _ _ hca tT
      have xU : ∀ q, cr U q x = cr T q x := fun q => fr_cr fU.1 hxT (by rw [hρT]; decide)
      have xUi : ∀ q, ci U q x = ci T q x := fun q => fr_ci fU.1 hxT (by rw [hρT]; decide)
      have h18 : ∀ a, a ∈ cL T → ρ a = 18 → ρ a = 18 := fun a _ z => z
      have hxU : cA U x 11 := fr_A fU.1 hxT
      have gI := gIx_fk fU (by decide) a2 hρT (fun q _ => xU q) (fun q _ => xUi q) a1
      have gP : gPr U ρ dp x 0 nd := by
        obtain ⟨q, e, gq⟩ := a3
        exact ⟨q, (xU _).trans e, gQy_fr fU.1 (by decide) (by decide) h18 gq⟩
      have gQ : gQl U ρ dp x qs6 := by
        obtain ⟨ql, l, lm, e, y1, y2, y3, y4, y5⟩ := a4
        obtain ⟨z1, z2⟩ := fr_ls fU.1 (by decide) y1 y2
        exact ⟨ql, l, lm, (xU _).trans e, z1, z2, y3, y4, parL_imp (fun q e g => gQy_fr fU.1 (by decide) (by decide) h18 g) y5⟩
      have gL : cL6 ad U ρ x := by
        obtain ⟨P, c0, c1, n0, P0, n1, P1, g⟩ := hLT
        exact ⟨P, c0, c1, n0, P0, n1, P1, gLD_f fU.1 (by decide) hρT (fun q _ => xU q) g⟩
      obtain ⟨gRU', tU, uI, uJ⟩ := I6_rows iT.1 hT fU.1 (by decide)
      have iU := I6_eq gRU' uI uJ iT
      have lsv : s2.2.1.length ≤ 27 := Nat.le_trans (nd_lt (p5 s2 hs2).1 hsM) hm27
      have hR : R6 (k + 1) U dp x ar (cd + 1) (dd + 9) := ⟨ρ, ad, dn, made, sl, BL, ix, mg, cm, pr, sn, o1, some s2, op, fi, w, cc, off, _, _, _, c.1, c.2.1, r'.1, gL, ⟨⟨so, sd, gI⟩, a2, ⟨nd, gP⟩, gQ, gRU, by rw [k2] at gFU; exact gFU⟩, iU, tU, pI_k (Nat.le_succ k) (fun _ c => c) hP, ⟨hF.1, k1, fun z hz => by
          rcases k4 z hz with w1 | ⟨w1, w2⟩
          · exact hF.2.2.1 z w1
          · exact ⟨by rw [w1]; exact hy, hsM _ w2⟩, by rw [k3]; have := hF.2.2.2; omega⟩, by omega, by omega⟩
      have iF := iU.2.2.2.2.2.2.2.2.2
      obtain ⟨f1, f2, f3, f4⟩ := iF
      have c15 := fun (q : Nat) (hq : q < 17) => lR_X gRU' (i := 15) (by decide) (show q < lLn 15 from hq)
      rw [nI_x 14 (by decide), f1.1]
      refine ⟨c15 14 (by decide), fun z => absurd rfl z, fun _ => ⟨hxU, ⟨by omega, by omega⟩, g_skipped hxU gFU ?_⟩⟩
      rw [nI_x 15 (by decide), f2]
      refine ⟨c15 15 (by decide), fun z => absurd rfl z, fun _ => ⟨hxU, ⟨by omega, by omega⟩, g_cached hxU gFU ?_⟩⟩
      rw [nI_x 16 (by decide), f3, k2]
      refine ⟨c15 16 (by decide), fun z => absurd rfl z, fun _ => ?_⟩
      unfold k_L_isFound_87
      exact q_hits ⟨by omega, by omega⟩ hxU gFU gRU' f1 (hQ 1 9 U bd.1 bd.2 hR ((uI 9 (by decide)).trans (eI 9 (by decide) (by decide) (by decide) (by decide))) ((uI 10 (by decide)).trans (eI 10 (by decide) (by decide) (by decide) (by decide))))
end LZV
