/-! the case of the index asked -/
section LZJ
variable {S V T W U : cS} {ρ ρ' : Nat → Nat} {dp x k cd dd made dn : Nat} {ar : Nat → Nat} {so : Nat → Nat} {sd : Nat → List Nat} {sl : Nat → List Nat} {BL : List Nat} {B : List Dc} {ix : Vw} {mg : Option (Vw × Nat)} {cm pr : Option Vw} {sn : List (Nat × Vw)} {o1 o2 : Option (Nat × Vw)} {op fi w : Nat} {cc : Option Nat} {off ad : Bool} {H : List (Nat × Nat)} {sk tk : Nat} {CL : List (Nat × Nat × Nat)} {u : Nat} {R : List (Nat × Nat)}
theorem q_ix139 {Q : Int32 → cS → Prop} {mc ms cd dd : Nat} (hbd : cd ≤ mc ∧ dd ≤ ms) (a1 : gIx S ρ dp x so sd (sgR sl) made B ix mg cm pr sn op fi w cc false) (hM : vwM made ix) (g : I6 S ar dn made sl BL ix mg cm pr o1 o2 op fi w cc off H sk tk R) (h : Q (nI 1) S) : k_L_isIndex_139L Q dp mc ms x (ar 0) (ar 2) (ar 3) (ar 4) (ar 6) (ar 15) (nI 1) (nI 0) cd dd S := by
  have gx := xi_of g
  obtain ⟨g1, g2, g3, g4, g5, -⟩ := id g
  have hl := g5.1.2
  have hm27 := g3.2.1.2
  unfold k_L_isIndex_139L
  refine lfp_cnt ix.1.length (fun i y => y = (x, ar 0, ar 2, ar 3, ar 4, ar 6, ar 15, nI 1, nI i, cd, dd, S)) ?_ rfl
  rintro P i _ hi rfl ih
  show k_L_isIndex_139 Q dp mc ms _ x (ar 0) (ar 2) (ar 3) (ar 4) (ar 6) (ar 15) (nI 1) (nI i) cd dd S
  unfold k_L_isIndex_139
  rw [nI_x 3 (by decide), g5.1.1]
  refine ⟨lR_X g1 (i := 15) (by decide) (by decide), pk_le ix.1.length i (fun c => ⟨hbd, ⟨true, rfl⟩, h⟩) (fun c => ⟨fun z => absurd z (by decide), fun _ => ⟨a1.1.1, hbd, ?_⟩⟩)⟩
  obtain ⟨n, hn⟩ : ∃ n, ix.1[i]? = some n := ⟨_, List.getElem?_eq_getElem c⟩
  obtain ⟨⟨cx6, ex⟩, ⟨cz3, ez, hz⟩, i30, n30⟩ := lXi_X gx hn
  have hnm := hM n (List.mem_of_getElem? hn)
  have ev := g5.2.2 n (List.mem_of_getElem? hn)
  have c4 := lR_X g1 (i := 4) (by decide) (show n < 30 from n30)
  have hb10 : bN (ix.2 n) (sl n).length < 1024 := Nat.lt_of_lt_of_le (bN_lt _ _) (by
    have := Nat.pow_le_pow_right (show 0 < 2 by decide) hz
    exact Nat.le_trans this (by decide))
  refine g_segmentAt a1 hM hn ?_
  rw [nI_x i (by omega), ex]
  refine ⟨cx6, fun z => absurd rfl z, fun _ => ⟨a1.1.1, hbd, g_live a1 hM hn ?_⟩⟩
  rw [ex, nI_x n (by omega), ev]
  refine ⟨cx6, c4, hbd, q_L_ones hb10 ?_⟩
  rw [pcT_bN hz, sgR_len]
  refine ⟨fun z => absurd rfl z, fun _ => ?_⟩
  unfold k_L_isIndex_192 k_L_isIndex_197L
  refine lfp_cnt (sl n).length (fun j y => y = (x, ar 0, ar 2, ar 3, ar 4, ar 6, ar 15, nI 1, nI i, nI j, cd, dd, S)) ?_ rfl
  rintro P2 j _ hj rfl ih2
  show k_L_isIndex_197 Q dp mc ms _ _ x (ar 0) (ar 2) (ar 3) (ar 4) (ar 6) (ar 15) (nI 1) (nI i) (nI j) cd dd S
  unfold k_L_isIndex_197
  rw [nI_x i (by omega), ex, nI_x n (by omega), ez]
  refine ⟨cx6, cz3, pk_le (sl n).length j (fun d => ?_) (fun d => ⟨fun z => absurd z (by decide), fun _ => ⟨a1.1.1, hbd, ?_⟩⟩)⟩
  · unfold k_L_isIndex_256
    rintro _ rfl
    rw [nI_add]
    exact ih _ c rfl
  · obtain ⟨a, ha⟩ : ∃ a, (sl n)[j]? = some a := ⟨_, List.getElem?_eq_getElem d⟩
    refine g_keyAt a1 hM hn (sgR_get.mpr ⟨a, ha, rfl⟩) ⟨cx6, hbd, ?_⟩
    rw [ex]
    refine q_L_rec g2 hnm ha (fun q q64 qd eq a51 => ?_)
    rw [nI_x q (by omega), eq, lN_and15, lN_toI, dK_R]
    refine ⟨lR_X g1 (i := 0) (by decide) (show q < 64 from q64), fun z => absurd rfl z, fun _ => ?_⟩
    unfold k_L_isIndex_248
    rintro _ rfl
    rw [nI_add]
    exact ih2 _ d rfl
theorem R6_fr (hL : cL6 ad S ρ x) (hC : C6 S ρ dp x made sl BL ix mg cm pr sn op fi w cc off H sk tk CL u) (hI : I6 S ar dn made sl BL ix mg cm pr o1 o2 op fi w cc off H sk tk R) (hT : tg6 ρ ar) (h : fr S T ρ ρ' []) : cL6 ad T ρ' x ∧ C6 T ρ' dp x made sl BL ix mg cm pr sn op fi w cc off H sk tk CL u ∧ I6 T ar dn made sl BL ix mg cm pr o1 o2 op fi w cc off H sk tk R ∧ tg6 ρ' ar := by
  obtain ⟨hx, hρ⟩ := C6_x hC
  obtain ⟨gR, gt, eI, eJ⟩ := I6_rows hI.1 hT h (by decide)
  exact ⟨cL6_fr h (by decide) hx hρ hL, C6_fr h (by decide) hC, I6_eq gR eI eJ hI, gt⟩
theorem q_index {Q : Nat → Nat → Int32 → cS → Prop} (h : R6 k S dp x ar cd dd) (hk : k ≤ 250) (hQ : ∀ m1 m2 T, cd + m1 ≤ 500000 → dd + m2 ≤ 5000000 → R6 (k + 1) T dp x ar (cd + m1) (dd + m2) → Q m1 m2 (bI true) T) : ∃ m1 m2, cd + m1 ≤ 500000 ∧ dd + m2 ≤ 5000000 ∧ k_L_isIndex (Q m1 m2) dp m1 m2 x (ar 0) (ar 2) (ar 3) (ar 4) (ar 6) (ar 7) (ar 8) (ar 9) (ar 10) (ar 15) S := by
  have bd := R6_bd hk (a := 3) (b := 60) (by decide) (by decide) h
  have hk6 := R6_k (cd' := cd + 3) (dd' := dd + 60) (by omega) (by omega) h
  obtain ⟨ρ, ad, dn, made, sl, BL, ix, mg, cm, pr, sn, o1, o2, op, fi, w, cc, off, H, sk, tk, CL, u, R, hL, hC, hI, hT, hP, hF, hc1, hc2⟩ := id h
  obtain ⟨g1, g2, g3, g4, g5, g6, ⟨g7, g8, g9, g10⟩, g11, g12, g13⟩ := id hI
  obtain ⟨⟨so, sd, a1⟩, a2, a3, a4, a5, a6⟩ := id hC
  obtain ⟨⟨p1, p2, p3, p4, p5⟩, p6, p7, ⟨p8, p8b, p8c, p8d⟩, p9, p10, p11, p12, p13, p14, p15⟩ := id hP
  have hm27 := g3.2.1.2
  have i368 : ci S 368 x = nI w := a1.2.2.2.2.2.2.2.2.2.2.2.1
  have i370 : ci S 370 x = bI off := a1.2.2.2.2.2.2.2.2.2.2.2.2.2
  have c15 := fun (q : Nat) (hq : q < 17) => lR_X g1 (i := 15) (by decide) (show q < lLn 15 from hq)
  refine ⟨3, 60, bd.1, bd.2, ?_⟩
  unfold k_L_isIndex k_X11_isDown
  rw [i370]
  refine ⟨a1.1.1, ⟨by omega, by omega⟩, a1.1.1, ⟨off, rfl⟩, ?_⟩
  dsimp only
  rw [nI_x 6 (by decide), g12.2.2.1]
  refine ⟨c15 6 (by decide), ?_⟩
  cases off with
  | true =>
    refine ⟨fun z => absurd rfl z, fun _ => ?_⟩
    unfold k_L_isIndex_18 k_X11_writes
    refine ⟨fun z => absurd rfl z, fun _ => ⟨a1.1.1, ⟨by omega, by omega⟩, a1.1.1, ?_⟩⟩
    rw [i368]
    dsimp only
    rw [nI_x 4 (by decide), g12.1]
    refine ⟨c15 4 (by decide), fun z => absurd rfl z, fun _ => ⟨1, 6, by omega, by omega, didX_segments a1.1.1 (by omega) (x_segments a1 (by omega) (by omega) ⟨by omega, ?_⟩)⟩⟩
    rw [nI_x 6 (by decide), g12.2.2.1]
    refine ⟨c15 6 (by decide), fun z => absurd rfl z, fun _ => ?_⟩
    unfold k_L_isIndex_56
    refine ⟨fun z => absurd rfl z, fun _ => ⟨1, 6, by omega, by omega, didX_due a1.1.1 (by omega) (x_due a1 (by omega) (by omega) ⟨by omega, ?_⟩)⟩⟩
    rw [nI_x 6 (by decide), g12.2.2.1]
    refine ⟨c15 6 (by decide), fun z => absurd rfl z, fun _ => ?_⟩
    unfold k_L_isIndex_87
    refine ⟨fun z => absurd rfl z, fun _ => ⟨1, 6, by omega, by omega, didX_files a1.1.1 (by omega) (x_files a1 (by omega) (by omega) ⟨by omega, ?_⟩)⟩⟩
    rw [nI_x 6 (by decide), g12.2.2.1]
    refine ⟨c15 6 (by decide), fun z => absurd rfl z, fun _ => ?_⟩
    unfold k_L_isIndex_126 k_L_isIndex_134
    refine ⟨fun z => absurd rfl z, fun _ => ?_⟩
    obtain ⟨z1, -⟩ := p9 rfl
    unfold k_L_isIndex_139L
    refine lfp_cnt 0 (fun _ y => y = (x, ar 0, ar 2, ar 3, ar 4, ar 6, ar 15, nI 1, nI 0, 0 + 1 + 1 + 1, 0 + 6 + 6 + 6, S)) ?_ rfl
    rintro P i _ _ rfl _
    show k_L_isIndex_139 (Q 3 60) dp 3 60 _ x (ar 0) (ar 2) (ar 3) (ar 4) (ar 6) (ar 15) (nI 1) (nI 0) (0 + 1 + 1 + 1) (0 + 6 + 6 + 6) S
    unfold k_L_isIndex_139
    rw [nI_x 3 (by decide), g5.1.1, z1]
    exact ⟨c15 3 (by decide), fun _ => ⟨by omega, ⟨true, rfl⟩, hQ 3 60 S bd.1 bd.2 hk6⟩, fun z => absurd (by decide) z⟩
  | false =>
    refine ⟨fun _ => ?_, fun z => absurd z (by decide)⟩
    unfold k_L_isIndex_18 k_X11_writes
    refine ⟨fun z => absurd rfl z, fun _ => ⟨a1.1.1, ⟨by omega, by omega⟩, a1.1.1, ?_⟩⟩
    rw [i368]
    dsimp only
    rw [nI_x 4 (by decide), g12.1]
    refine ⟨c15 4 (by decide), fun z => absurd rfl z, fun _ => ⟨1, 6, by omega, by omega, did_segments a1.1.1 (g_segments a1 ⟨by omega, ?_⟩)⟩⟩
    rw [nI_x 6 (by decide), g12.2.2.1, nI_x 3 (by decide), g5.1.1]
    refine ⟨c15 6 (by decide), fun _ => ⟨c15 3 (by decide), ?_⟩, fun z => absurd z (by decide)⟩
    unfold k_L_isIndex_56
    have after : ∀ r, k_L_isIndex_87 (Q 3 60) dp 3 60 x (ar 0) (ar 2) (ar 3) (ar 4) (ar 6) (ar 7) (ar 8) (ar 9) (ar 10) (ar 15) r r (0 + 1 + 1) (0 + 6 + 6) S := fun r => by
      unfold k_L_isIndex_87
      refine ⟨fun z => absurd rfl z, fun _ => ⟨1, 40, by omega, by omega, did_files a1.1.1 (g_files a1 a2 (by omega) ?_ (by omega) (by omega) (fun T ρ' f => ⟨by omega, ?_⟩))⟩⟩
      · cases mg with
        | none => show 0 < 1000; decide
        | some sc => obtain ⟨-, -, -, m2, m3, -⟩ := g6.2 sc.1 sc.2 rfl; show sc.2 < 1000; omega
      · obtain ⟨tL, tC, tI, tT⟩ := R6_fr hL hC hI hT f
        obtain ⟨t1, t2, t3, t4, t5, t6, ⟨t7, t8, t9, t10⟩, t11, t12, t13⟩ := id tI
        obtain ⟨⟨so', sd', b1⟩, b2, -⟩ := id tC
        rw [nI_x 6 (by decide), t12.2.2.1]
        have hfi : fiN (sgR sl) ix mg cm pr sn = rfA (fz cm pr) (sgR sl) made ix.1 mg cm pr (slO o1 o2) := fz_fi p8 a2 (fun s h => (p3 s h).1) (fun s h => (p4 s h).1) (fun n hn => by rw [sgR_len]; exact Nat.lt_of_le_of_lt (g2.2.2 n hn).2.1 (by decide))
        refine ⟨lR_X t1 (i := 15) (by decide) (by decide), fun _ => ⟨⟨by omega, by omega⟩, q_L_files (xi_of tI) t7 t8 t9 t10 t3.2.1.1 t6.1 (fun s c e => ?_) ?_⟩, fun z => absurd z (by decide)⟩
        · obtain ⟨-, m1, -, m2, m3, -⟩ := t6.2 s c e
          exact ⟨m1, by omega⟩
        · rw [hfi]
          unfold k_L_isIndex_126 k_L_isIndex_134
          refine ⟨fun z => absurd rfl z, fun _ => q_ix139 ⟨by omega, by omega⟩ b1 b2.1 tI (hQ 3 60 T bd.1 bd.2 ?_)⟩
          exact ⟨ρ', ad, dn, made, sl, BL, ix, mg, cm, pr, sn, o1, o2, op, fi, w, cc, false, H, sk, tk, CL, u, R, tL, tC, tI, tT, pI_k (Nat.le_succ k) (fun _ c => c) hP, ⟨hF.1, hF.2.1, hF.2.2.1, by have := hF.2.2.2; omega⟩, by omega, by omega⟩
    refine ⟨fun z => absurd rfl z, fun _ => ⟨1, 6, by omega, by omega, did_due a1.1.1 (g_due a1 (fun q hq hmin => ⟨by omega, ?_⟩) (fun hno => ⟨by omega, ?_⟩))⟩⟩
    · rw [nI_x 6 (by decide), g12.2.2.1]
      refine ⟨c15 6 (by decide), fun _ => ⟨⟨by omega, by omega⟩, q_L_due (xi_of hI) (fun hn => absurd hq (hn q)) (fun q' hq' hmin' _ => ?_)⟩, fun z => absurd z (by decide)⟩
      obtain rfl : q = q' := by
        rcases Nat.lt_trichotomy q q' with z | z | z
        · exact absurd hq (hmin' q z)
        · exact z
        · exact absurd hq' (hmin q' z)
      exact after _
    · rw [nI_x 6 (by decide), g12.2.2.1]
      exact ⟨c15 6 (by decide), fun _ => ⟨⟨by omega, by omega⟩, q_L_due (xi_of hI) (fun _ => after _) (fun q' hq' _ _ => absurd hq' (hno q'))⟩, fun z => absurd z (by decide)⟩
end LZJ
