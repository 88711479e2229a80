theorem ml_le {sl : Nat → List Nat} {v : Vw} {E : Nat → Nat} {y : Nat} : (mtL (sgR sl) (fQ sl v E y) v.1).length ≤ allN (sgR sl) v.2 v.1 := by
  rw [mtL_cnt]
  refine sumL_le (fun n hn => cntB_imp (fun j h => ?_) _)
  unfold fQ at h
  rw [Bool.and_eq_true] at h
  exact h.1
section LZ2
variable {S T U : cS} {ρ ρ' : Nat → Nat} {dp x k cd dd made dn y key cat : Nat} {ar : Nat → Nat} {sl : Nat → List Nat} {BL : List Nat} {ix : Vw} {mg : Option (Vw × Nat)} {cm pr : Option Vw} {sn : List (Nat × Vw)} {s : Nat × Vw} {o2 : Option (Nat × Vw)} {op fi w : Nat} {cc : Option Nat} {off ad : Bool} {H : List (Nat × Nat)} {sk tk : Nat} {R : List (Nat × Nat)} {CL : List (Nat × Nat × Nat)} {u : Nat}
/-- the end: the class is asked -/
theorem q_plend9 {Q : Int32 → cS → Prop} {mc ms cd dd tv : Nat} {M : List Nat} (hF : W6 S ρ dp x ar ad dn made sl BL ix mg cm pr sn (some s) o2 op fi w cc off H sk tk CL u R) (hs : s ∈ sn) (huq : ∀ q, q ∈ sn → nI q.1 = nI s.1 → q = s) (hvs : vG (sgR sl) s.2) (hsM : vwM made s.2) (hok : fiOk (sgR sl) made sn qs6 3 1) (hs30 : s.1 < 2 ^ 30) (hy : y < 9) (hkey : key < 10) (hcat : cat < 3) (htv : tv < 2 ^ 31) (hM : M = nlM sl (mtL (sgR sl) (fQ sl s.2 (gaN sl s.2) y) s.2.1)) (hm : cd + 600 ≤ mc ∧ dd + 12000 ≤ ms) (hQ : ∀ T ρ', W6 T ρ' dp x ar ad dn made sl BL ix mg cm pr sn (some s) o2 op fi w cc off H sk tk CL u R → Q (bI true) T) : cX S (ar 9) 14 (nI 0) ∧ cA S x 11 ∧ (cd ≤ mc ∧ dd ≤ ms) ∧ k_X11_documents (fun r_11 S_11 => (¬ r_11 = nI (sumL (fun n => cntB (s.2.2 n) (sl n).length) s.2.1) → k_L_isPlain_412 Q dp mc ms x (ar 9) (nI y) (nI key) (nI M.length) (plRk (gaN sl s.2) y key M) (plK (plL M)) cd dd S_11) ∧ (r_11 = nI (sumL (fun n => cntB (s.2.2 n) (sl n).length) s.2.1) → cX S_11 (ar 9) 14 (nI 0) ∧ (cA S_11 x 11 ∧ (∃ mc16 ms17 : Nat, cd + mc16 ≤ mc ∧ dd + ms17 ≤ ms ∧ (k_X11_matches (fun r_18 S_18 => (¬ r_18 = nI M.length → k_L_isPlain_412 Q dp mc ms x (ar 9) (nI y) (nI key) (nI M.length) (plRk (gaN sl s.2) y key M) (plK (plL M)) (cd + mc16) (dd + ms17) S_18) ∧ (r_18 = nI M.length → (0 < nI tv - nI tv / nI 4 * nI 4 → k_L_isPlain_370 Q dp mc ms x (ar 9) (nI y) (nI key) (nI cat) (nI M.length) (nI (plO cat M)) (plRk (gaN sl s.2) y key M) (plK (plL M)) (cd + mc16) (dd + ms17) S_18) ∧ (¬ 0 < nI tv - nI tv / nI 4 * nI 4 → cX S_18 (ar 9) 14 (nI 0) ∧ (cA S_18 x 11 ∧ ((cd + mc16 ≤ mc ∧ dd + ms17 ≤ ms) ∧ (k_X11_matchesByScan (fun r_23 S_23 => (¬ r_23 = nI M.length → k_L_isPlain_412 Q dp mc ms x (ar 9) (nI y) (nI key) (nI M.length) (plRk (gaN sl s.2) y key M) (plK (plL M)) (cd + mc16) (dd + ms17) S_23) ∧ (r_23 = nI M.length → k_L_isPlain_370 Q dp mc ms x (ar 9) (nI y) (nI key) (nI cat) (nI M.length) (nI (plO cat M)) (plRk (gaN sl s.2) y key M) (plK (plL M)) (cd + mc16) (dd + ms17) S_23)) dp x (cI S_18 (ar 9) (nI 0).toNatClampNeg - nI 1) (nI y) S_18)))))) dp mc16 ms17 x (cI S_11 (ar 9) (nI 0).toNatClampNeg - nI 1) (nI y) S_11))))) dp x (cI S (ar 9) (nI 0).toNatClampNeg - nI 1) S := by
  have h10 : ∀ n, n ∈ s.2.1 → (sl n).length ≤ 10 := fun n hn => (hF.2.2.1.2.1.2.2 n (hsM n hn)).2.1
  obtain ⟨e, he⟩ : ∃ e, qs6[y]? = some e := ⟨_, List.getElem?_eq_getElem (show y < 9 from hy)⟩
  have emt := mt_eq (v := s.2) hy h10 he
  have ex : ∃ q, q ∈ sn ∧ nI q.1 = nI s.1 := ⟨s, hs, rfl⟩
  -- the row at any state
  have row : ∀ T ρT, W6 T ρT dp x ar ad dn made sl BL ix mg cm pr sn (some s) o2 op fi w cc off H sk tk CL u R → cX T (ar 9) 14 (nI 0) ∧ cA T x 11 ∧ cI T (ar 9) (nI 0).toNatClampNeg - nI 1 = nI s.1 := fun T ρT h => by
    obtain ⟨hL, hC, hI, hT⟩ := h
    refine ⟨lR_X hI.1 (i := 9) (by decide) (by decide), (C6_x hC).1, ?_⟩
    have g9 := hI.2.2.2.2.2.2.1.2.2.1
    rw [nI_x 0 (by decide), g9.2.1.1]
    show nI (s.1 + 1) - nI 1 = nI s.1
    rw [pk_sub (by omega)]
    rfl
  have pas : ∀ T ρT cd' dd', W6 T ρT dp x ar ad dn made sl BL ix mg cm pr sn (some s) o2 op fi w cc off H sk tk CL u R → cd' ≤ mc → dd' ≤ ms → k_L_isPlain_444 Q dp mc ms x (ar 9) (nI y) (nI key) (plRk (gaN sl s.2) y key M) cd' dd' T := fun T ρT cd' dd' h b1 b2 => by
    obtain ⟨r1, r2, r3⟩ := row T ρT h
    obtain ⟨hL, hC, hI, hT⟩ := id h
    obtain ⟨⟨so, sd, a1⟩, a2, ⟨nd, a3⟩, a4, a5, a6⟩ := hC
    unfold k_L_isPlain_444
    rw [r3]
    refine ⟨r1, r2, ⟨b1, b2⟩, g_passages a1 a2 a4 a5 a6 hok ex he (by omega) (by decide) (fun q hq eq hno => ?_) (fun U q n j d hq eq hn hj hl hdk f gR gF => ?_)⟩
    · obtain rfl := huq q hq eq
      have e0 : plRk (gaN sl q.2) y key M = -1 := by rw [hM]; exact rk_none hno
      rw [e0]
      exact ⟨fun z => absurd z (by decide), fun _ => ⟨fun _ => ⟨⟨b1, b2⟩, hQ T ρT h⟩, fun z => absurd (by decide) z⟩⟩
    · obtain rfl := huq q hq eq
      have hU := F6_fk h f (fun _ _ => rfl) (by decide) gR gF
      have yes : ((cd' ≤ mc ∧ dd' ≤ ms) ∧ Q (bI true) U) := ⟨⟨b1, b2⟩, hQ U ρT hU⟩
      obtain ⟨a, ha, rfl⟩ := sgR_get.mp hj
      rw [dK_R] at hdk
      have erk : plRk (gaN sl q.2) y key M = cIn (opN (rkN (gaN sl q.2) a y)) := by rw [hM]; exact rk_key hvs hn ha hl hdk
      refine ⟨fun _ => yes, fun z => ⟨fun _ => yes, fun z2 => ⟨fun _ => yes, fun z3 => ⟨fun _ => yes, fun z4 => ⟨fun z5 => ?_, fun _ => yes⟩⟩⟩⟩⟩
      exfalso
      have n1 : y ≠ 1 := fun c => z3 (by rw [c])
      have n5 : y ≠ 5 := fun c => z4 (by rw [c])
      have n7 : y ≠ 7 := fun c => z5 (by rw [c])
      rw [erk] at z2
      have hr : 0 < rkN (gaN sl q.2) a y := by
        rcases Nat.eq_zero_or_pos (rkN (gaN sl q.2) a y) with c | c
        · rw [c] at z2
          exact absurd (by decide) z2
        · exact c
      have hps := ps_y ha hy h10 he hr n1 n5 n7
      have hlen := psM_len (e := e) (d := dcR a) (fl := 0)
      exact z ((nI_gt0 (by omega)).mpr hps)
  have ord : ∀ T ρT cd' dd', W6 T ρT dp x ar ad dn made sl BL ix mg cm pr sn (some s) o2 op fi w cc off H sk tk CL u R → cd' + 200 ≤ mc → dd' + 4000 ≤ ms → k_L_isPlain_413 Q dp mc ms x (ar 9) (nI y) (nI key) (nI M.length) (plRk (gaN sl s.2) y key M) (plK (plL M)) (nI 1) cd' dd' T := fun T ρT cd' dd' h b1 b2 => by
    obtain ⟨r1, r2, r3⟩ := row T ρT h
    obtain ⟨hL, hC, hI, hT⟩ := id h
    obtain ⟨⟨so, sd, a1⟩, a2, ⟨nd, a3⟩, a4, a5, a6⟩ := hC
    unfold k_L_isPlain_413
    refine ⟨fun z => absurd z (by decide), fun _ => ?_⟩
    have hml : M.length < 2 ^ 31 := by
      have h1 := hok.2.2.1 s hs
      have h2 : M.length ≤ allN (sgR sl) s.2.2 s.2.1 := by
        rw [hM]
        unfold nlM
        rw [List.length_map]
        exact ml_le
      omega
    refine w_z M.length (fun h0 => ?_) (fun h0 => ?_)
    · exact pas T ρT cd' dd' h (by omega) (by omega)
    · have hne : M ≠ [] := fun z => by rw [z] at h0; exact absurd h0 (Nat.lt_irrefl _)
      obtain ⟨i, a, hi, hp, hmin1, hmin2⟩ := plL_min hne
      have edc : dcQ (sgR sl) s.2 e = M.map dcR := by
        unfold dcQ
        rw [emt, dc_map, hM]
      have hlenM : (M.map dcR).length = M.length := List.length_map _
      rw [r3, hp]
      refine ⟨r1, r2, 200, 4000, b1, b2, g_sortedAt (dn := false) a1 a2 a4 a5 a6 hok ex he (fun q hq eq => ?_) (by omega) (by omega) (fun U ρU q k d hq eq f hρ gR gF hk hz => ?_)⟩
      · obtain rfl := huq q hq eq
        rw [edc, hlenM]
        obtain ⟨p, hp1, hp2⟩ := splN_on (N := dnO (M.map dcR)) (dn := false) (k := M.length) (p := 0) h0
        exact ⟨p, hp1, by rw [hp2]⟩
      · obtain rfl := huq q hq eq
        rw [edc] at hk hz
        rw [hlenM] at hz
        rw [List.getElem?_map] at hk
        obtain ⟨c, hc, rfl⟩ := Option.map_eq_some_iff.mp hk
        have hlt := splN_lt (N := dnO (M.map dcR)) (dn := false) (get_lt hc)
        have hz0 : splN (dnO (M.map dcR)) false M.length k = 0 := (nI_eq (by omega) (by decide)).mp hz
        have ekey := sp_min hi hmin1 hmin2 hc hz0
        have hU := F6_fk h f hρ (by decide) gR gF
        rw [dK_R, ekey]
        refine ⟨fun z => absurd rfl z, fun _ => ?_⟩
        exact pas U ρU (cd' + 200) (dd' + 4000) hU b1 b2
  have fac : ∀ T ρT cd' dd', W6 T ρT dp x ar ad dn made sl BL ix mg cm pr sn (some s) o2 op fi w cc off H sk tk CL u R → cd' + 400 ≤ mc → dd' + 8000 ≤ ms → k_L_isPlain_370 Q dp mc ms x (ar 9) (nI y) (nI key) (nI cat) (nI M.length) (nI (plO cat M)) (plRk (gaN sl s.2) y key M) (plK (plL M)) cd' dd' T := fun T ρT cd' dd' h b1 b2 => by
    obtain ⟨r1, r2, r3⟩ := row T ρT h
    obtain ⟨hL, hC, hI, hT⟩ := id h
    obtain ⟨⟨so, sd, a1⟩, a2, ⟨nd, a3⟩, a4, a5, a6⟩ := hC
    unfold k_L_isPlain_370
    rw [r3]
    refine ⟨r1, r2, 200, 4000, by omega, by omega, g_facet a1 a2 a4 a5 a6 hok ex he (by omega) (by omega) (by omega) (fun U ρU q hq eq f hρ gR gF => ?_)⟩
    obtain rfl := huq q hq eq
    have hU := F6_fk h f hρ (by decide) gR gF
    obtain ⟨s1, s2, s3⟩ := row U ρU hU
    have efac : sumL (fun d => if dC d = cat then 1 else 0) ((mtQ (sgR sl) q.2 e).map (fun y => (sgR sl y.1).getD y.2 ((0, 0, 0), [], []))) = plO cat M := by
      rw [emt, dc_map, ← hM]
      exact fac_eq M
    rw [efac, s3]
    obtain ⟨⟨so', sd', c1⟩, c2, ⟨nd', c3⟩, c4, c5, c6⟩ := hU.2.1
    refine ⟨fun z => absurd rfl z, fun _ => ⟨s1, s2, ⟨by omega, by omega⟩, g_rankByScan c1 c2 c4 c5 c6 hok ex he (by omega) (fun q' hq' eq' hno => ?_) (fun V q' n j d hq' eq' hn hj hl hdk f2 gR2 gF2 => ?_)⟩⟩
    · obtain rfl := huq q' hq' eq'
      have e0 : plRk (gaN sl q'.2) y key M = -1 := by rw [hM]; exact rk_none hno
      refine ⟨fun z => absurd e0.symm z, fun _ => ord U ρU _ _ hU (by omega) (by omega)⟩
    · obtain rfl := huq q' hq' eq'
      obtain ⟨a, ha, rfl⟩ := sgR_get.mp hj
      rw [dK_R] at hdk
      have erk : plRk (gaN sl q'.2) y key M = cIn (opN (rkN (gaN sl q'.2) a y)) := by rw [hM]; exact rk_key hvs hn ha hl hdk
      have hV := F6_fk hU f2 (fun _ _ => rfl) (by decide) gR2 gF2
      rw [vl_y hy h10 he ha, ← erk]
      exact ⟨fun z => absurd rfl z, fun _ => ord V ρU _ _ hV (by omega) (by omega)⟩
  obtain ⟨r1, r2, r3⟩ := row S ρ hF
  obtain ⟨⟨so, sd, a1⟩, a2, ⟨nd, a3⟩, a4, a5, a6⟩ := hF.2.1
  rw [r3]
  refine ⟨r1, r2, ⟨by omega, by omega⟩, g_documents a1 ex (fun q hq eq => ?_)⟩
  obtain rfl := huq q hq eq
  have eall : sumL (fun n => cntB (q.2.2 n) (sgR sl n).length) q.2.1 = sumL (fun n => cntB (q.2.2 n) (sl n).length) q.2.1 := sumL_ext (fun n hn => by rw [sgR_len])
  have emm : (mtQ (sgR sl) q.2 e).length = M.length := by
    rw [emt, hM]
    unfold nlM
    rw [List.length_map]
  rw [eall, r3, i_mod htv (by decide) (by decide)]
  refine ⟨fun z => absurd rfl z, fun _ => ⟨r1, r2, 200, 4000, by omega, by omega, g_matches a1 a2 a4 a5 a6 hok ex he (by omega) (by omega) (fun U ρU q' hq' eq' f hρ gR gF => ?_)⟩⟩
  obtain rfl := huq q' hq' eq'
  have hU := F6_fk hF f hρ (by decide) gR gF
  obtain ⟨s1, s2, s3⟩ := row U ρU hU
  rw [emm]
  refine ⟨fun z => absurd rfl z, fun _ => ⟨fun _ => fac U ρU _ _ hU (by omega) (by omega), fun _ => ?_⟩⟩
  obtain ⟨⟨so', sd', c1⟩, c2, ⟨nd', c3⟩, c4, c5, c6⟩ := hU.2.1
  rw [s3]
  refine ⟨s1, s2, ⟨by omega, by omega⟩, g_matchesByScan c1 c2 c4 c5 c6 hok ex he (fun V q' hq' eq' f2 gR2 gF2 => ?_)⟩
  obtain rfl := huq q' hq' eq'
  have hV := F6_fk hU f2 (fun _ _ => rfl) (by decide) gR2 gF2
  rw [emm]
  exact ⟨fun z => absurd rfl z, fun _ => fac V ρU _ _ hV (by omega) (by omega)⟩
end LZ2
