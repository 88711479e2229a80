section LZ3
variable {S T U : cS} {ρ ρ' : Nat → Nat} {dp x k cd dd made dn y key cat : Nat} {ar : Nat → Nat} {sl : Nat → List Nat} {BL : List Nat} {ix : Vw} {mg : Option (Vw × Nat)} {cm pr : Option Vw} {sn : List (Nat × Vw)} {s : Nat × Vw} {o1 : Option (Nat × Vw)} {op fi w : Nat} {cc : Option Nat} {off ad : Bool} {H : List (Nat × Nat)} {sk tk : Nat} {R : List (Nat × Nat)} {CL : List (Nat × Nat × Nat)} {u : Nat}
/-- the end: the class is asked -/
theorem q_plend10 {Q : Int32 → cS → Prop} {mc ms cd dd tv : Nat} {M : List Nat} (hF : W6 S ρ dp x ar ad dn made sl BL ix mg cm pr sn o1 (some s) op fi w cc off H sk tk CL u R) (hs : s ∈ sn) (huq : ∀ q, q ∈ sn → nI q.1 = nI s.1 → q = s) (hvs : vG (sgR sl) s.2) (hsM : vwM made s.2) (hok : fiOk (sgR sl) made sn qs6 3 1) (hs30 : s.1 < 2 ^ 30) (hy : y < 9) (hkey : key < 10) (hcat : cat < 3) (htv : tv < 2 ^ 31) (hM : M = nlM sl (mtL (sgR sl) (fQ sl s.2 (gaN sl s.2) y) s.2.1)) (hm : cd + 600 ≤ mc ∧ dd + 12000 ≤ ms) (hQ : ∀ T ρ', W6 T ρ' dp x ar ad dn made sl BL ix mg cm pr sn o1 (some s) op fi w cc off H sk tk CL u R → Q (bI true) T) : cX S (ar 10) 14 (nI 0) ∧ cA S x 11 ∧ (cd ≤ mc ∧ dd ≤ ms) ∧ k_X11_documents (fun r_11 S_11 => (¬ r_11 = nI (sumL (fun n => cntB (s.2.2 n) (sl n).length) s.2.1) → k_L_isPlain_412 Q dp mc ms x (ar 10) (nI y) (nI key) (nI M.length) (plRk (gaN sl s.2) y key M) (plK (plL M)) cd dd S_11) ∧ (r_11 = nI (sumL (fun n => cntB (s.2.2 n) (sl n).length) s.2.1) → cX S_11 (ar 10) 14 (nI 0) ∧ (cA S_11 x 11 ∧ (∃ mc16 ms17 : Nat, cd + mc16 ≤ mc ∧ dd + ms17 ≤ ms ∧ (k_X11_matches (fun r_18 S_18 => (¬ r_18 = nI M.length → k_L_isPlain_412 Q dp mc ms x (ar 10) (nI y) (nI key) (nI M.length) (plRk (gaN sl s.2) y key M) (plK (plL M)) (cd + mc16) (dd + ms17) S_18) ∧ (r_18 = nI M.length → (0 < nI tv - nI tv / nI 4 * nI 4 → k_L_isPlain_370 Q dp mc ms x (ar 10) (nI y) (nI key) (nI cat) (nI M.length) (nI (plO cat M)) (plRk (gaN sl s.2) y key M) (plK (plL M)) (cd + mc16) (dd + ms17) S_18) ∧ (¬ 0 < nI tv - nI tv / nI 4 * nI 4 → cX S_18 (ar 10) 14 (nI 0) ∧ (cA S_18 x 11 ∧ ((cd + mc16 ≤ mc ∧ dd + ms17 ≤ ms) ∧ (k_X11_matchesByScan (fun r_23 S_23 => (¬ r_23 = nI M.length → k_L_isPlain_412 Q dp mc ms x (ar 10) (nI y) (nI key) (nI M.length) (plRk (gaN sl s.2) y key M) (plK (plL M)) (cd + mc16) (dd + ms17) S_23) ∧ (r_23 = nI M.length → k_L_isPlain_370 Q dp mc ms x (ar 10) (nI y) (nI key) (nI cat) (nI M.length) (nI (plO cat M)) (plRk (gaN sl s.2) y key M) (plK (plL M)) (cd + mc16) (dd + ms17) S_23)) dp x (cI S_18 (ar 10) (nI 0).toNatClampNeg - nI 1) (nI y) S_18)))))) dp mc16 ms17 x (cI S_11 (ar 10) (nI 0).toNatClampNeg - nI 1) (nI y) S_11))))) dp x (cI S (ar 10) (nI 0).toNatClampNeg - nI 1) S := by
  have h10 : ∀ n, n ∈ s.2.1 → (sl n).length ≤ 10 := fun n hn => (hF.2.2.1.2.1.2.2 n (hsM n hn)).2.1
  obtain ⟨e, he⟩ : ∃ e, qs6[y]? = some e := ⟨_, List.getElem?_eq_getElem (show y < 9 from hy)⟩
  have emt := mt_eq (v := s.2) hy h10 he
  have ex : ∃ q, q ∈ sn ∧ nI q.1 = nI s.1 := ⟨s, hs, rfl⟩
  -- the row at any state
  have row : ∀ T ρT, W6 T ρT dp x ar ad dn made sl BL ix mg cm pr sn o1 (some s) op fi w cc off H sk tk CL u R → cX T (ar 10) 14 (nI 0) ∧ cA T x 11 ∧ cI T (ar 10) (nI 0).toNatClampNeg - nI 1 = nI s.1 := fun T ρT h => by
    obtain ⟨hL, hC, hI, hT⟩ := h
    refine ⟨lR_X hI.1 (i := 10) (by decide) (by decide), (C6_x hC).1, ?_⟩
    have g9 := hI.2.2.2.2.2.2.1.2.2.2
    rw [nI_x 0 (by decide), g9.2.1.1]
    show nI (s.1 + 1) - nI 1 = nI s.1
    rw [pk_sub (by omega)]
    rfl
  have pas : ∀ T ρT cd' dd', W6 T ρT dp x ar ad dn made sl BL ix mg cm pr sn o1 (some s) op fi w cc off H sk tk CL u R → cd' ≤ mc → dd' ≤ ms → k_L_isPlain_444 Q dp mc ms x (ar 10) (nI y) (nI key) (plRk (gaN sl s.2) y key M) cd' dd' T := fun T ρT cd' dd' h b1 b2 => by
    obtain ⟨r1, r2, r3⟩ := row T ρT h
    obtain ⟨hL, hC, hI, hT⟩ := id h
    obtain ⟨⟨so, sd, a1⟩, a2, ⟨nd, a3⟩, a4, a5, a6⟩ := hC
    unfold k_L_isPlain_444
    rw [r3]
    refine ⟨r1, r2, ⟨b1, b2⟩, g_passages a1 a2 a4 a5 a6 hok ex he (by omega) (by decide) (fun q hq eq hno => ?_) (fun U q n j d hq eq hn hj hl hdk f gR gF => ?_)⟩
    · obtain rfl := huq q hq eq
      have e0 : plRk (gaN sl q.2) y key M = -1 := by rw [hM]; exact rk_none hno
      rw [e0]
      exact ⟨fun z => absurd z (by decide), fun _ => ⟨fun _ => ⟨⟨b1, b2⟩, hQ T ρT h⟩, fun z => absurd (by decide) z⟩⟩
    · obtain rfl := huq q hq eq
      have hU := F6_fk h f (fun _ _ => rfl) (by decide) gR gF
      have yes : ((cd' ≤ mc ∧ dd' ≤ ms) ∧ Q (bI true) U) := ⟨⟨b1, b2⟩, hQ U ρT hU⟩
      obtain ⟨a, ha, rfl⟩ := sgR_get.mp hj
      rw [dK_R] at hdk
      have erk : plRk (gaN sl q.2) y key M = cIn (opN (rkN (gaN sl q.2) a y)) := by rw [hM]; exact rk_key hvs hn ha hl hdk
      refine ⟨fun _ => yes, fun z => ⟨fun _ => yes, fun z2 => ⟨fun _ => yes, fun z3 => ⟨fun _ => yes, fun z4 => ⟨fun z5 => ?_, fun _ => yes⟩⟩⟩⟩⟩
      exfalso
      have n1 : y ≠ 1 := fun c => z3 (by rw [c])
      have n5 : y ≠ 5 := fun c => z4 (by rw [c])
      have n7 : y ≠ 7 := fun c => z5 (by rw [c])
      rw [erk] at z2
      have hr : 0 < rkN (gaN sl q.2) a y := by
        rcases Nat.eq_zero_or_pos (rkN (gaN sl q.2) a y) with c | c
        · rw [c] at z2
          exact absurd (by decide) z2
        · exact c
      have hps := ps_y ha hy h10 he hr n1 n5 n7
      have hlen := psM_len (e := e) (d := dcR a) (fl := 0)
      exact z ((nI_gt0 (by omega)).mpr hps)
  have ord : ∀ T ρT cd' dd', W6 T ρT dp x ar ad dn made sl BL ix mg cm pr sn o1 (some s) op fi w cc off H sk tk CL u R → cd' + 200 ≤ mc → dd' + 4000 ≤ ms → k_L_isPlain_413 Q dp mc ms x (ar 10) (nI y) (nI key) (nI M.length) (plRk (gaN sl s.2) y key M) (plK (plL M)) (nI 1) cd' dd' T := fun T ρT cd' dd' h b1 b2 => by
    obtain ⟨r1, r2, r3⟩ := row T ρT h
    obtain ⟨hL, hC, hI, hT⟩ := id h
    obtain ⟨⟨so, sd, a1⟩, a2, ⟨nd, a3⟩, a4, a5, a6⟩ := hC
    unfold k_L_isPlain_413
    refine ⟨fun z => absurd z (by decide), fun _ => ?_⟩
    have hml : M.length < 2 ^ 31 := by
      have h1 := hok.2.2.1 s hs
      have h2 : M.length ≤ allN (sgR sl) s.2.2 s.2.1 := by
        rw [hM]
        unfold nlM
        rw [List.length_map]
        exact ml_le
      omega
    refine w_z M.length (fun h0 => ?_) (fun h0 => ?_)
    · exact pas T ρT cd' dd' h (by omega) (by omega)
    · have hne : M ≠ [] := fun z => by rw [z] at h0; exact absurd h0 (Nat.lt_irrefl _)
      obtain ⟨i, a, hi, hp, hmin1, hmin2⟩ := plL_min hne
      have edc : dcQ (sgR sl) s.2 e = M.map dcR := by
        unfold dcQ
        rw [emt, dc_map, hM]
      have hlenM : (M.map dcR).length = M.length := List.length_map _
      rw [r3, hp]
      refine ⟨r1, r2, 200, 4000, b1, b2, g_sortedAt (dn := false) a1 a2 a4 a5 a6 hok ex he (fun q hq eq => ?_) (by omega) (by omega) (fun U ρU q k d hq eq f hρ gR gF hk hz => ?_)⟩
      · obtain rfl := huq q hq eq
        rw [edc, hlenM]
        obtain ⟨p, hp1, hp2⟩ := splN_on (N := dnO (M.map dcR)) (dn := false) (k := M.length) (p := 0) h0
        exact ⟨p, hp1, by rw [hp2]⟩
      · obtain rfl := huq q hq eq
        rw [edc] at hk hz
        rw [hlenM] at hz
        rw [List.getElem?_map] at hk
        obtain ⟨c, hc, rfl⟩ := Option.map_eq_some_iff.mp hk
        have hlt := splN_lt (N := dnO (M.map dcR)) (dn := false) (get_lt hc)
        have hz0 : splN (dnO (M.map dcR)) false M.length k = 0 := (nI_eq (by omega) (by decide)).mp hz
        have ekey := sp_min hi hmin1 hmin2 hc hz0
        have hU := F6_fk h f hρ (by decide) gR gF
        rw [dK_R, ekey]
        refine ⟨fun z => absurd rfl z, fun _ => ?_⟩
        exact pas U ρU (cd' + 200) (dd' + 4000) hU b1 b2
  have fac : ∀ T ρT cd' dd', W6 T ρT dp x ar ad dn made sl BL ix mg cm pr sn o1 (some s) op fi w cc off H sk tk CL u R → cd' + 400 ≤ mc → dd' + 8000 ≤ ms → k_L_isPlain_370 Q dp mc ms x (ar 10) (nI y) (nI key) (nI cat) (nI M.length) (nI (plO cat M)) (plRk (gaN sl s.2) y key M) (plK (plL M)) cd' dd' T := fun T ρT cd' dd' h b1 b2 => by
    obtain ⟨r1, r2, r3⟩ := row T ρT h
    obtain ⟨hL, hC, hI, hT⟩ := id h
    obtain ⟨⟨so, sd, a1⟩, a2, ⟨nd, a3⟩, a4, a5, a6⟩ := hC
    unfold k_L_isPlain_370
    rw [r3]
    refine ⟨r1, r2, 200, 4000, by omega, by omega, g_facet a1 a2 a4 a5 a6 hok ex he (by omega) (by omega) (by omega) (fun U ρU q hq eq f hρ gR gF => ?_)⟩
    obtain rfl := huq q hq eq
    have hU := F6_fk h f hρ (by decide) gR gF
    obtain ⟨s1, s2, s3⟩ := row U ρU hU
    have efac : sumL (fun d => if dC d = cat then 1 else 0) ((mtQ (sgR sl) q.2 e).map (fun y => (sgR sl y.1).getD y.2 ((0, 0, 0), [], []))) = plO cat M := by
      rw [emt, dc_map, ← hM]
      exact fac_eq M
    rw [efac, s3]
    obtain ⟨⟨so', sd', c1⟩, c2, ⟨nd', c3⟩, c4, c5, c6⟩ := hU.2.1
    refine ⟨fun z => absurd rfl z, fun _ => ⟨s1, s2, ⟨by omega, by omega⟩, g_rankByScan c1 c2 c4 c5 c6 hok ex he (by omega) (fun q' hq' eq' hno => ?_) (fun V q' n j d hq' eq' hn hj hl hdk f2 gR2 gF2 => ?_)⟩⟩
    · obtain rfl := huq q' hq' eq'
      have e0 : plRk (gaN sl q'.2) y key M = -1 := by rw [hM]; exact rk_none hno
      refine ⟨fun z => absurd e0.symm z, fun _ => ord U ρU _ _ hU (by omega) (by omega)⟩
    · obtain rfl := huq q' hq' eq'
      obtain ⟨a, ha, rfl⟩ := sgR_get.mp hj
      rw [dK_R] at hdk
      have erk : plRk (gaN sl q'.2) y key M = cIn (opN (rkN (gaN sl q'.2) a y)) := by rw [hM]; exact rk_key hvs hn ha hl hdk
      have hV := F6_fk hU f2 (fun _ _ => rfl) (by decide) gR2 gF2
      rw [vl_y hy h10 he ha, ← erk]
      exact ⟨fun z => absurd rfl z, fun _ => ord V ρU _ _ hV (by omega) (by omega)⟩
  obtain ⟨r1, r2, r3⟩ := row S ρ hF
  obtain ⟨⟨so, sd, a1⟩, a2, ⟨nd, a3⟩, a4, a5, a6⟩ := hF.2.1
  rw [r3]
  refine ⟨r1, r2, ⟨by omega, by omega⟩, g_documents a1 ex (fun q hq eq => ?_)⟩
  obtain rfl := huq q hq eq
  have eall : sumL (fun n => cntB (q.2.2 n) (sgR sl n).length) q.2.1 = sumL (fun n => cntB (q.2.2 n) (sl n).length) q.2.1 := sumL_ext (fun n hn => by rw [sgR_len])
  have emm : (mtQ (sgR sl) q.2 e).length = M.length := by
    rw [emt, hM]
    unfold nlM
    rw [List.length_map]
  rw [eall, r3, i_mod htv (by decide) (by decide)]
  refine ⟨fun z => absurd rfl z, fun _ => ⟨r1, r2, 200, 4000, by omega, by omega, g_matches a1 a2 a4 a5 a6 hok ex he (by omega) (by omega) (fun U ρU q' hq' eq' f hρ gR gF => ?_)⟩⟩
  obtain rfl := huq q' hq' eq'
  have hU := F6_fk hF f hρ (by decide) gR gF
  obtain ⟨s1, s2, s3⟩ := row U ρU hU
  rw [emm]
  refine ⟨fun z => absurd rfl z, fun _ => ⟨fun _ => fac U ρU _ _ hU (by omega) (by omega), fun _ => ?_⟩⟩
  obtain ⟨⟨so', sd', c1⟩, c2, ⟨nd', c3⟩, c4, c5, c6⟩ := hU.2.1
  rw [s3]
  refine ⟨s1, s2, ⟨by omega, by omega⟩, g_matchesByScan c1 c2 c4 c5 c6 hok ex he (fun V q' hq' eq' f2 gR2 gF2 => ?_)⟩
  obtain rfl := huq q' hq' eq'
  have hV := F6_fk hU f2 (fun _ _ => rfl) (by decide) gR2 gF2
  rw [emm]
  exact ⟨fun z => absurd rfl z, fun _ => fac V ρU _ _ hV (by omega) (by omega)⟩
end LZ3
section LZ4
variable {S T U : cS} {dp x k cd dd : Nat} {ar : Nat → Nat}
theorem q_plain9 {Q : Nat → Nat → Int32 → cS → Prop} {t : Nat} (h : R6 k S dp x ar cd dd) (hk : k ≤ 250) (ht : t < 10000000) (hq : ¬ cI S (ar 9) (nI 0).toNatClampNeg ≤ 0) (hQ : ∀ m1 m2 T, cd + m1 ≤ 500000 → dd + m2 ≤ 5000000 → R6 (k + 1) T dp x ar (cd + m1) (dd + m2) → Q m1 m2 (bI true) T) : ∃ m1 m2, cd + m1 ≤ 500000 ∧ dd + m2 ≤ 5000000 ∧ k_L_isPlain (Q m1 m2) dp m1 m2 x (ar 0) (ar 2) (ar 3) (ar 9) (nI t) S := by
  have bd := R6_bd hk (a := 601) (b := 12009) (by decide) (by decide) h
  obtain ⟨ρ, ad, dn, made, sl, BL, ix, mg, cm, pr, sn, o1, o2, op, fi, w, cc, off, H, sk, tk, CL, u, R, hL, hC, hI, hT, hP, hF, hc1, hc2⟩ := id h
  obtain ⟨g1, g2, g3, g4, g5, g6, ⟨g7, g8, g9, g10⟩, g11, g12, g13⟩ := id hI
  obtain ⟨⟨p1, p2, p3, p4, p5⟩, p6, p7, ⟨p8, p8b, p8c, p8d⟩, p9, p10, p11, p12, p13, p14, p15⟩ := id hP
  have hm27 := g3.2.1.2
  have hy : t % 9 < 9 := Nat.mod_lt _ (by decide)
  have hkey : t / 9 % 10 < 10 := Nat.mod_lt _ (by decide)
  have hcat : t / 90 % 3 < 3 := Nat.mod_lt _ (by decide)
  rw [nI_x 0 (by decide)] at hq
  cases o1 with
  | none => exact absurd (by rw [g9.2.1.1]; decide) hq
  | some s =>
    have hs : s ∈ sn := (sn_ex p8).mpr ⟨0, by decide, rfl⟩
    have gv := g9.2.2 (Nat.succ_pos s.1)
    have a2 := hC.2.1
    have hsM : vwM made s.2 := a2.2.2.2.2 s hs
    have hok : fiOk (sgR sl) made sn qs6 3 1 := fi_ok hm27 (fun n hn => (g2.2.2 n hn).2.1) (fun q hq' => ⟨Nat.le_trans (nd_lt (p5 q hq').1 (a2.2.2.2.2 q hq')) hm27, a2.2.2.2.2 q hq'⟩)
    have huq : ∀ q, q ∈ sn → nI q.1 = nI s.1 → q = s := fun q hq' e => sn_uq p8b hq' hs ((nI_eq (by have := p8c q hq'; omega) (by have := p8c s hs; omega)).mp e)
    have hs30 : s.1 < 2 ^ 30 := by have := p8c s hs; omega
    refine ⟨601, 12009, bd.1, bd.2, ?_⟩
    unfold k_L_isPlain
    refine ⟨9, rfl, by decide, by omega, by omega, fun e he S3 e3 => ?_⟩
    have e9 : nI t / nI 9 = nI (t / 9) := pk_div (by omega) (by decide) (by decide)
    have e90 : nI t / nI 90 = nI (t / 90) := pk_div (by omega) (by decide) (by decide)
    have i1 : nI t - nI (t / 9) * nI 9 = nI (t % 9) := by rw [← e9]; exact i_mod (by omega) (by decide) (by decide)
    have i2 : nI (t / 9) - nI (t / 9) / nI 10 * nI 10 = nI (t / 9 % 10) := i_mod (by omega) (by decide) (by decide)
    have i3 : nI (t / 90) - nI (t / 90) / nI 3 * nI 3 = nI (t / 90 % 3) := i_mod (by omega) (by decide) (by decide)
    rw [e9, e90, i1, i2, i3]
    rintro _ rfl _ rfl _ rfl
    have ne : ∀ i, i < 16 → ar i ≠ e := fun i hi c => he (c ▸ (g1.1 i hi).1.1)
    have sub3 : cSub S S3 (fun _ => False) := by rw [e3]; exact sub_A he
    have ge3 : cA S3 e 14 ∧ cn S3 e = 9 := by rw [e3]; exact ⟨⟨List.mem_append_right _ (List.mem_singleton.mpr rfl), upR_s⟩, upR_s⟩
    have gR3 : lRow S3 ar := ⟨fun i hi => ⟨sub_A1 sub3 (g1.1 i hi).1, (sub_cn sub3 (g1.1 i hi).1).trans (g1.1 i hi).2⟩, g1.2⟩
    have e16 : ∀ i, i < 16 → cI S3 (ar i) = cI S (ar i) ∧ cJ S3 (ar i) = cJ S (ar i) := fun i hi => ⟨sub_cI sub3 (g1.1 i hi).1 (fun z => z), sub_cJ sub3 (g1.1 i hi).1 (fun z => z)⟩
    have hI3 := I6_eq gR3 (fun i hi => (e16 i hi).1) (fun i hi => (e16 i hi).2) hI
    have gv3 : lVw S3 (ar 9) made sl s.2 := hI3.2.2.2.2.2.2.1.2.2.1.2.2 (Nat.succ_pos s.1)
    refine ⟨⟨by omega, by omega⟩, q_L_gains hI3.2.1 gv3 ge3 (ne 0 (by decide)) (ne 2 (by decide)) (ne 3 (by decide)) (ne 9 (by decide)) (fun S4 w4 gE => ?_)⟩
    have sub4 : cSub S S4 (fun _ => False) := sub_tr sub3 (lw_sub w4) (fun a ha hin => he (by rw [List.mem_singleton.mp hin] at ha; exact ha))
    have f4 := fr_new (ρ := ρ) sub4
    obtain ⟨ρ1, eρ1⟩ : ∃ ρ1, ρ1 = (fun a => if a ∈ cL S then ρ a else 90) := ⟨_, rfl⟩
    rw [← eρ1] at f4
    obtain ⟨hx, hρ⟩ := C6_x hC
    have gR4 : lRow S4 ar := ⟨fun i hi => ⟨sub_A1 sub4 (g1.1 i hi).1, (sub_cn sub4 (g1.1 i hi).1).trans (g1.1 i hi).2⟩, g1.2⟩
    have hI4 := I6_eq gR4 (fun i hi => sub_cI sub4 (g1.1 i hi).1 (fun z => z)) (fun i hi => sub_cJ sub4 (g1.1 i hi).1 (fun z => z)) hI
    have hT4 : tg6 ρ1 ar := fun i hi => by rw [eρ1]; show (if ar i ∈ cL S then ρ (ar i) else 90) = 90; rw [if_pos (g1.1 i hi).1.1]; exact hT i hi
    have hW4 : W6 S4 ρ1 dp x ar ad dn made sl BL ix mg cm pr sn (some s) o2 op fi w cc off H sk tk CL u R := ⟨cL6_fr f4 (by decide) hx hρ hL, C6_fr f4 (by decide) hC, hI4, hT4⟩
    have gs4 := hI4.2.1
    have gv4 : lVw S4 (ar 9) made sl s.2 := hI4.2.2.2.2.2.2.1.2.2.1.2.2 (Nat.succ_pos s.1)
    have l30 := gv4.2.2.1
    rintro _ rfl _ rfl _ rfl
    unfold k_L_isPlain_63L
    refine lfp_cnt s.2.1.length (fun i yy => ∃ M, M = nlM sl (mtL (sgR sl) (fQ sl s.2 (gaN sl s.2) (t % 9)) (s.2.1.take i)) ∧ yy = (x, ar 0, ar 2, ar 3, ar 9, nI t, e, nI (t % 9), nI (t / 9 % 10), nI (t / 90 % 3), nI (sumL (fun n => cntB (s.2.2 n) (sl n).length) (s.2.1.take i)), nI M.length, nI (plO (t / 90 % 3) M), plRk (gaN sl s.2) (t % 9) (t / 9 % 10) M, plF (plL M), plK (plL M), nI i, 0 + 1, 0 + 9, S4)) ?_ ⟨[], by rw [List.take_zero]; rfl, by rw [List.take_zero]; rfl⟩
    rintro P i _ hi ⟨M, hM, rfl⟩ ih
    show k_L_isPlain_63 (Q 601 12009) dp 601 12009 _ x (ar 0) (ar 2) (ar 3) (ar 9) (nI t) e (nI (t % 9)) (nI (t / 9 % 10)) (nI (t / 90 % 3)) (nI (sumL (fun n => cntB (s.2.2 n) (sl n).length) (s.2.1.take i))) (nI M.length) (nI (plO (t / 90 % 3) M)) (plRk (gaN sl s.2) (t % 9) (t / 9 % 10) M) (plF (plL M)) (plK (plL M)) (nI i) (0 + 1) (0 + 9) S4
    unfold k_L_isPlain_63
    rw [nI_x 1 (by decide), gv4.2.1]
    refine ⟨lR_X gR4 (i := 9) (by decide) (by decide), pk_le s.2.1.length i (fun c => ?_) (fun c => ?_)⟩
    · obtain rfl : i = s.2.1.length := by omega
      rw [List.take_length] at hM ⊢
      exact q_plend9 hW4 hs huq (p5 s hs) hsM hok hs30 hy hkey hcat (by omega) hM ⟨by omega, by omega⟩ (fun T ρ' hW => hQ 601 12009 T bd.1 bd.2 ⟨ρ', ad, dn, made, sl, BL, ix, mg, cm, pr, sn, some s, o2, op, fi, w, cc, off, H, sk, tk, CL, u, R, hW.1, hW.2.1, hW.2.2.1, hW.2.2.2, pI_k (Nat.le_succ k) (fun _ c => c) hP, ⟨hF.1, hF.2.1, hF.2.2.1, by have := hF.2.2.2; omega⟩, by omega, by omega⟩)
    · obtain ⟨n, hn⟩ : ∃ n, s.2.1[i]? = some n := ⟨_, List.getElem?_eq_getElem c⟩
      obtain ⟨en, nm⟩ := gv4.2.2.2.1 i n hn
      rw [nI_add, nI_x (2 + i) (by omega), en]
      refine ⟨lR_X gR4 (i := 9) (by decide) (show 2 + i < 64 by omega), ?_⟩
      rintro _ rfl
      have hts : s.2.1.take (i + 1) = s.2.1.take i ++ [n] := by rw [List.take_succ, hn]; rfl
      subst hM
      refine q_pl84 (hbd := ⟨by omega, by omega⟩) gs4 gv4 gE (List.mem_of_getElem? hn) nm (fun a ha => ?_) hy (by omega) (by omega) (fun M' hM' => ih _ c ⟨M', ?_, ?_⟩)
      · obtain ⟨n', j', h1, h2, -⟩ := nl_in (v := (s.2.1.take i, s.2.2)) ha
        obtain ⟨-, -, y', -, -, hd⟩ := gs4.2.2 n' (hsM n' (List.mem_of_mem_take h1))
        exact (hd j' a h2).2.2
      · rw [hM', hts, mtL_snoc, sgR_len]
      · rw [hts, sumL_app]
        rfl
theorem q_plain10 {Q : Nat → Nat → Int32 → cS → Prop} {t : Nat} (h : R6 k S dp x ar cd dd) (hk : k ≤ 250) (ht : t < 10000000) (hq : ¬ cI S (ar 10) (nI 0).toNatClampNeg ≤ 0) (hQ : ∀ m1 m2 T, cd + m1 ≤ 500000 → dd + m2 ≤ 5000000 → R6 (k + 1) T dp x ar (cd + m1) (dd + m2) → Q m1 m2 (bI true) T) : ∃ m1 m2, cd + m1 ≤ 500000 ∧ dd + m2 ≤ 5000000 ∧ k_L_isPlain (Q m1 m2) dp m1 m2 x (ar 0) (ar 2) (ar 3) (ar 10) (nI t) S := by
  have bd := R6_bd hk (a := 601) (b := 12009) (by decide) (by decide) h
  obtain ⟨ρ, ad, dn, made, sl, BL, ix, mg, cm, pr, sn, o1, o2, op, fi, w, cc, off, H, sk, tk, CL, u, R, hL, hC, hI, hT, hP, hF, hc1, hc2⟩ := id h
  obtain ⟨g1, g2, g3, g4, g5, g6, ⟨g7, g8, g9, g10⟩, g11, g12, g13⟩ := id hI
  obtain ⟨⟨p1, p2, p3, p4, p5⟩, p6, p7, ⟨p8, p8b, p8c, p8d⟩, p9, p10, p11, p12, p13, p14, p15⟩ := id hP
  have hm27 := g3.2.1.2
  have hy : t % 9 < 9 := Nat.mod_lt _ (by decide)
  have hkey : t / 9 % 10 < 10 := Nat.mod_lt _ (by decide)
  have hcat : t / 90 % 3 < 3 := Nat.mod_lt _ (by decide)
  rw [nI_x 0 (by decide)] at hq
  cases o2 with
  | none => exact absurd (by rw [g10.2.1.1]; decide) hq
  | some s =>
    have hs : s ∈ sn := (sn_ex p8).mpr ⟨1, by decide, rfl⟩
    have gv := g10.2.2 (Nat.succ_pos s.1)
    have a2 := hC.2.1
    have hsM : vwM made s.2 := a2.2.2.2.2 s hs
    have hok : fiOk (sgR sl) made sn qs6 3 1 := fi_ok hm27 (fun n hn => (g2.2.2 n hn).2.1) (fun q hq' => ⟨Nat.le_trans (nd_lt (p5 q hq').1 (a2.2.2.2.2 q hq')) hm27, a2.2.2.2.2 q hq'⟩)
    have huq : ∀ q, q ∈ sn → nI q.1 = nI s.1 → q = s := fun q hq' e => sn_uq p8b hq' hs ((nI_eq (by have := p8c q hq'; omega) (by have := p8c s hs; omega)).mp e)
    have hs30 : s.1 < 2 ^ 30 := by have := p8c s hs; omega
    refine ⟨601, 12009, bd.1, bd.2, ?_⟩
    unfold k_L_isPlain
    refine ⟨9, rfl, by decide, by omega, by omega, fun e he S3 e3 => ?_⟩
    have e9 : nI t / nI 9 = nI (t / 9) := pk_div (by omega) (by decide) (by decide)
    have e90 : nI t / nI 90 = nI (t / 90) := pk_div (by omega) (by decide) (by decide)
    have i1 : nI t - nI (t / 9) * nI 9 = nI (t % 9) := by rw [← e9]; exact i_mod (by omega) (by decide) (by decide)
    have i2 : nI (t / 9) - nI (t / 9) / nI 10 * nI 10 = nI (t / 9 % 10) := i_mod (by omega) (by decide) (by decide)
    have i3 : nI (t / 90) - nI (t / 90) / nI 3 * nI 3 = nI (t / 90 % 3) := i_mod (by omega) (by decide) (by decide)
    rw [e9, e90, i1, i2, i3]
    rintro _ rfl _ rfl _ rfl
    have ne : ∀ i, i < 16 → ar i ≠ e := fun i hi c => he (c ▸ (g1.1 i hi).1.1)
    have sub3 : cSub S S3 (fun _ => False) := by rw [e3]; exact sub_A he
    have ge3 : cA S3 e 14 ∧ cn S3 e = 9 := by rw [e3]; exact ⟨⟨List.mem_append_right _ (List.mem_singleton.mpr rfl), upR_s⟩, upR_s⟩
    have gR3 : lRow S3 ar := ⟨fun i hi => ⟨sub_A1 sub3 (g1.1 i hi).1, (sub_cn sub3 (g1.1 i hi).1).trans (g1.1 i hi).2⟩, g1.2⟩
    have e16 : ∀ i, i < 16 → cI S3 (ar i) = cI S (ar i) ∧ cJ S3 (ar i) = cJ S (ar i) := fun i hi => ⟨sub_cI sub3 (g1.1 i hi).1 (fun z => z), sub_cJ sub3 (g1.1 i hi).1 (fun z => z)⟩
    have hI3 := I6_eq gR3 (fun i hi => (e16 i hi).1) (fun i hi => (e16 i hi).2) hI
    have gv3 : lVw S3 (ar 10) made sl s.2 := hI3.2.2.2.2.2.2.1.2.2.2.2.2 (Nat.succ_pos s.1)
    refine ⟨⟨by omega, by omega⟩, q_L_gains hI3.2.1 gv3 ge3 (ne 0 (by decide)) (ne 2 (by decide)) (ne 3 (by decide)) (ne 10 (by decide)) (fun S4 w4 gE => ?_)⟩
    have sub4 : cSub S S4 (fun _ => False) := sub_tr sub3 (lw_sub w4) (fun a ha hin => he (by rw [List.mem_singleton.mp hin] at ha; exact ha))
    have f4 := fr_new (ρ := ρ) sub4
    obtain ⟨ρ1, eρ1⟩ : ∃ ρ1, ρ1 = (fun a => if a ∈ cL S then ρ a else 90) := ⟨_, rfl⟩
    rw [← eρ1] at f4
    obtain ⟨hx, hρ⟩ := C6_x hC
    have gR4 : lRow S4 ar := ⟨fun i hi => ⟨sub_A1 sub4 (g1.1 i hi).1, (sub_cn sub4 (g1.1 i hi).1).trans (g1.1 i hi).2⟩, g1.2⟩
    have hI4 := I6_eq gR4 (fun i hi => sub_cI sub4 (g1.1 i hi).1 (fun z => z)) (fun i hi => sub_cJ sub4 (g1.1 i hi).1 (fun z => z)) hI
    have hT4 : tg6 ρ1 ar := fun i hi => by rw [eρ1]; show (if ar i ∈ cL S then ρ (ar i) else 90) = 90; rw [if_pos (g1.1 i hi).1.1]; exact hT i hi
    have hW4 : W6 S4 ρ1 dp x ar ad dn made sl BL ix mg cm pr sn o1 (some s) op fi w cc off H sk tk CL u R := ⟨cL6_fr f4 (by decide) hx hρ hL, C6_fr f4 (by decide) hC, hI4, hT4⟩
    have gs4 := hI4.2.1
    have gv4 : lVw S4 (ar 10) made sl s.2 := hI4.2.2.2.2.2.2.1.2.2.2.2.2 (Nat.succ_pos s.1)
    have l30 := gv4.2.2.1
    rintro _ rfl _ rfl _ rfl
    unfold k_L_isPlain_63L
    refine lfp_cnt s.2.1.length (fun i yy => ∃ M, M = nlM sl (mtL (sgR sl) (fQ sl s.2 (gaN sl s.2) (t % 9)) (s.2.1.take i)) ∧ yy = (x, ar 0, ar 2, ar 3, ar 10, nI t, e, nI (t % 9), nI (t / 9 % 10), nI (t / 90 % 3), nI (sumL (fun n => cntB (s.2.2 n) (sl n).length) (s.2.1.take i)), nI M.length, nI (plO (t / 90 % 3) M), plRk (gaN sl s.2) (t % 9) (t / 9 % 10) M, plF (plL M), plK (plL M), nI i, 0 + 1, 0 + 9, S4)) ?_ ⟨[], by rw [List.take_zero]; rfl, by rw [List.take_zero]; rfl⟩
    rintro P i _ hi ⟨M, hM, rfl⟩ ih
    show k_L_isPlain_63 (Q 601 12009) dp 601 12009 _ x (ar 0) (ar 2) (ar 3) (ar 10) (nI t) e (nI (t % 9)) (nI (t / 9 % 10)) (nI (t / 90 % 3)) (nI (sumL (fun n => cntB (s.2.2 n) (sl n).length) (s.2.1.take i))) (nI M.length) (nI (plO (t / 90 % 3) M)) (plRk (gaN sl s.2) (t % 9) (t / 9 % 10) M) (plF (plL M)) (plK (plL M)) (nI i) (0 + 1) (0 + 9) S4
    unfold k_L_isPlain_63
    rw [nI_x 1 (by decide), gv4.2.1]
    refine ⟨lR_X gR4 (i := 10) (by decide) (by decide), pk_le s.2.1.length i (fun c => ?_) (fun c => ?_)⟩
    · obtain rfl : i = s.2.1.length := by omega
      rw [List.take_length] at hM ⊢
      exact q_plend10 hW4 hs huq (p5 s hs) hsM hok hs30 hy hkey hcat (by omega) hM ⟨by omega, by omega⟩ (fun T ρ' hW => hQ 601 12009 T bd.1 bd.2 ⟨ρ', ad, dn, made, sl, BL, ix, mg, cm, pr, sn, o1, some s, op, fi, w, cc, off, H, sk, tk, CL, u, R, hW.1, hW.2.1, hW.2.2.1, hW.2.2.2, pI_k (Nat.le_succ k) (fun _ c => c) hP, ⟨hF.1, hF.2.1, hF.2.2.1, by have := hF.2.2.2; omega⟩, by omega, by omega⟩)
    · obtain ⟨n, hn⟩ : ∃ n, s.2.1[i]? = some n := ⟨_, List.getElem?_eq_getElem c⟩
      obtain ⟨en, nm⟩ := gv4.2.2.2.1 i n hn
      rw [nI_add, nI_x (2 + i) (by omega), en]
      refine ⟨lR_X gR4 (i := 10) (by decide) (show 2 + i < 64 by omega), ?_⟩
      rintro _ rfl
      have hts : s.2.1.take (i + 1) = s.2.1.take i ++ [n] := by rw [List.take_succ, hn]; rfl
      subst hM
      refine q_pl84 (hbd := ⟨by omega, by omega⟩) gs4 gv4 gE (List.mem_of_getElem? hn) nm (fun a ha => ?_) hy (by omega) (by omega) (fun M' hM' => ih _ c ⟨M', ?_, ?_⟩)
      · obtain ⟨n', j', h1, h2, -⟩ := nl_in (v := (s.2.1.take i, s.2.2)) ha
        obtain ⟨-, -, y', -, -, hd⟩ := gs4.2.2 n' (hsM n' (List.mem_of_mem_take h1))
        exact (hd j' a h2).2.2
      · rw [hM', hts, mtL_snoc, sgR_len]
      · rw [hts, sumL_app]
        rfl
end LZ4
