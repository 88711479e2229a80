/-! both worlds together: a commit is prepared -/
def flC (B : List Dc) : Nat := if B.length = 0 then 0 else B.length + 1
theorem pr5 {a a' : Nat} {b b' : Nat → List Dc} {c c' : Vw} {d d' : Nat} {e e' : Option Nat} (h : (a, b, c, d, e) = (a', b', c', d', e')) : a = a' ∧ b = b' ∧ c = c' ∧ d = d' ∧ e = e' := by
  cases h
  exact ⟨rfl, rfl, rfl, rfl, rfl⟩
section FLP
variable {made made' : Nat} {sg sg' : Nat → List Dc} {B : List Dc} {ix ix' : Vw} {w w' : Nat} {cc cc' : Option Nat}
theorem flS_cc (e : flS made sg B ix w cc = (made', sg', ix', w', cc')) : cc' = cc.map (fun k => k - flC B) ∧ w' = w + flC B := by
  cases B with
  | nil =>
    obtain ⟨-, -, -, rfl, rfl⟩ := pr5 (show (made, sg, ix, w, cc) = _ from e)
    exact ⟨by cases cc <;> rfl, rfl⟩
  | cons d B =>
    obtain ⟨-, -, -, rfl, rfl⟩ := pr5 (show (made + 1, upR sg made (d :: B), (ix.1 ++ [made], fun n j => if n = made then true else ix.2 n j), w + ((d :: B).length + 1), cc.map (fun k => k - ((d :: B).length + 1))) = _ from e)
    exact ⟨rfl, rfl⟩
theorem flC_n (h : B ≠ []) : flC B = B.length + 1 := if_neg (fun e => h (List.eq_nil_of_length_eq_zero e))
/-- what is in a flushed index -/
theorem flS_ok (e : flS made sg B ix w cc = (made', sg', ix', w', cc')) (hM : vwM made ix) (v : vG sg ix) (p6 : (∀ (i i' : Nat) (d d' : Dc), B[i]? = some d → B[i']? = some d' → dK d = dK d' → i = i') ∧ ∀ d, d ∈ B → ∀ (n j : Nat) (d' : Dc), n ∈ ix.1 → (sg n)[j]? = some d' → ix.2 n j = true → dK d' ≠ dK d) (h2 : made < 200 ∨ B = []) (h201 : made ≤ 201) : (made ≤ made' ∧ made' ≤ 201 ∧ (made ≤ 200 → made' ≤ 200)) ∧ (∀ n, n < made → sg' n = sg n) ∧ vwM made' ix' ∧ vG sg' ix' ∧ (∀ n, n < made' → ∀ d, d ∈ sg' n → d ∈ B ∨ ∃ n', n' < made ∧ d ∈ sg n') ∧ smN (fun n => (sg' n).length) made' = smN (fun n => (sg n).length) made + B.length ∧ (∀ (a n : Nat), ix.1[a]? = some n → ix'.1[a]? = some n) ∧ (∀ n, n ∈ ix'.1 → n ∈ ix.1 ∨ n = made) := by
  cases B with
  | nil =>
    obtain ⟨rfl, rfl, rfl, -, -⟩ := pr5 (show (made, sg, ix, w, cc) = _ from e)
    exact ⟨⟨Nat.le_refl _, h201, id⟩, fun _ _ => rfl, hM, v, fun n hn d hd => Or.inr ⟨n, hn, hd⟩, rfl, fun _ _ h => h, fun n hn => Or.inl hn⟩
  | cons d0 B0 =>
    obtain ⟨B, hB⟩ : ∃ B, B = d0 :: B0 := ⟨_, rfl⟩
    have e := (show (made + 1, upR sg made (d0 :: B0), (ix.1 ++ [made], fun n j => if n = made then true else ix.2 n j), w + ((d0 :: B0).length + 1), cc.map (fun k => k - ((d0 :: B0).length + 1))) = _ from e)
    have h200 : made < 200 := h2.elim id (fun c => absurd c (by simp))
    rw [← hB] at e p6 ⊢
    obtain ⟨rfl, rfl, rfl, -, -⟩ := pr5 e
    have sgo : ∀ n, n < made → upR sg made B n = sg n := fun n hn => upR_n (by omega)
    have sB : upR sg made B made = B := upR_s
    refine ⟨⟨by omega, by omega, by omega⟩, sgo, fun n hn => ?_, ⟨?_, fun key n j d n' j' d' h1 h2 h3 h4 h5 h6 h7 h8 => ?_⟩, fun n hn d hd => ?_, ?_, fun a n h => ?_, fun n hn => ?_⟩
    · rcases List.mem_append.mp hn with h | h
      · have := hM n h; omega
      · rw [List.mem_singleton.mp h]; omega
    · refine List.nodup_append.mpr ⟨v.1, List.nodup_cons.mpr ⟨List.not_mem_nil, List.nodup_nil⟩, fun a ha b hb e => ?_⟩
      have := hM a ha
      rw [e, List.mem_singleton.mp hb] at this
      omega
    · have h5 : (if n = made then true else ix.2 n j) = true := h5
      have h6 : (if n' = made then true else ix.2 n' j') = true := h6
      rcases List.mem_append.mp h1 with h1 | h1 <;> rcases List.mem_append.mp h2 with h2 | h2
      · have := hM n h1
        have := hM n' h2
        rw [sgo n (by omega)] at h3
        rw [sgo n' (by omega)] at h4
        rw [if_neg (by omega)] at h5 h6
        exact v.2 key n j d n' j' d' h1 h2 h3 h4 h5 h6 h7 h8
      · have := hM n h1
        rw [List.mem_singleton.mp h2] at h4
        rw [sgo n (by omega)] at h3
        rw [sB] at h4
        rw [if_neg (by omega)] at h5
        exact absurd (h7.trans h8.symm) (p6.2 d' (List.mem_of_getElem? h4) n j d h1 h3 h5)
      · have := hM n' h2
        rw [List.mem_singleton.mp h1] at h3
        rw [sgo n' (by omega)] at h4
        rw [sB] at h3
        rw [if_neg (by omega)] at h6
        exact absurd (h8.trans h7.symm) (p6.2 d (List.mem_of_getElem? h3) n' j' d' h2 h4 h6)
      · rw [List.mem_singleton.mp h1] at h3 ⊢
        rw [List.mem_singleton.mp h2] at h4 ⊢
        rw [sB] at h3 h4
        exact ⟨rfl, p6.1 j j' d d' h3 h4 (h7.trans h8.symm)⟩
    · rcases Nat.lt_or_ge n made with z | z
      · rw [sgo n z] at hd
        exact Or.inr ⟨n, z, hd⟩
      · rw [show n = made by omega, sB] at hd
        exact Or.inl hd
    · rw [smN, sB]
      congr 1
      exact smN_ext (fun n hn => by rw [sgo n hn])
    · show (ix.1 ++ [made])[a]? = some n
      rw [List.getElem?_append_left (get_lt h)]; exact h
    · rcases List.mem_append.mp hn with h | h
      · exact Or.inl h
      · exact Or.inr (List.mem_singleton.mp h)
theorem wbs_lvF {cm : Option Vw} (h : made ∉ ovL cm) : lvF made (wbs cm) = wbs cm := by
  funext n j
  show (if n = made then true else wbs cm n j) = wbs cm n j
  by_cases c : n = made
  · rw [if_pos c, c]
    unfold wbs
    rw [if_neg h]
  · rw [if_neg c]
theorem all_t {f : Nat → Bool} {n : Nat} : decide (cntB f n < n) = !allB (fun j => f j == true) n := by
  have e : (fun j => f j == true) = f := by funext j; cases f j <;> rfl
  rw [e]
  have h1 := cntB_le f n
  cases c : allB f n with
  | true => rw [decide_eq_false (by have := cntB_all.mpr c; omega)]; rfl
  | false =>
    rw [decide_eq_true (by
      rcases Nat.lt_or_ge (cntB f n) n with z | z
      · exact z
      · have := cntB_all.mp (show cntB f n = n by omega)
        rw [c] at this; exact absurd this (by decide))]; rfl
theorem chB_wbs {lv : Nat → Nat → Bool} {cm : Option Vw} (n : Nat) : chB sg lv cm n = !allB (fun j => lv n j == wbs cm n j) (sg n).length := by
  cases cm with
  | none =>
    have e : (fun j => lv n j == wbs none n j) = fun j => lv n j == true := by
      funext j
      unfold wbs
      rw [if_neg (show n ∉ ovL none from List.not_mem_nil)]
    rw [e]
    show decide (cntB (lv n) (sg n).length < (sg n).length) = _
    exact all_t
  | some x =>
    show (if n ∈ x.1 then !(allB (fun j => lv n j == x.2 n j) (sg n).length) else decide (cntB (lv n) (sg n).length < (sg n).length)) = _
    by_cases c : n ∈ x.1
    · have e : (fun j => lv n j == wbs (some x) n j) = fun j => lv n j == x.2 n j := by
        funext j
        unfold wbs
        rw [if_pos (show n ∈ ovL (some x) from c)]; rfl
      rw [if_pos c, e]
    · have e : (fun j => lv n j == wbs (some x) n j) = fun j => lv n j == true := by
        funext j
        unfold wbs
        rw [if_neg (show n ∉ ovL (some x) from c)]
      rw [if_neg c, e]
      exact all_t
theorem chN_dfN {cm : Option Vw} : chN sg ix cm = dfN sg ix.2 (wbs cm) ix.1 := by
  unfold chN dfN
  congr 1
  funext n
  rw [chB_wbs]
end FLP
section CASW
variable {S T U S8 : cS} {ρ ρ' : Nat → Nat} {M Am Fm Gm : List Nat} {v v' : Nat → Int32} {f f' : Nat → Nat → Int32} {g g' : Nat → Nat → Int64} {dp x out k cd dd L : Nat} {x4 : Int32} {xs : Nat → Int32} {R : Int32 → Nat → Nat → cS → (Nat → Int32) → (Nat → Nat → Int32) → (Nat → Nat → Int64) → Prop}
variable {n : Nat} {P : Nat → Nat} {ks : Nat} {A : Nat → Int64} {yn : Nat} {F G : Nat → Int64} {ad : Bool} {c0 c1 n0 : Nat} {P0 : Nat → Nat} {n1 : Nat} {P1 : Nat → Nat} {WL : List Int64} {mc ms : Nat}
variable {so : Nat → Nat} {sd : Nat → List Nat} {sg : Nat → List Dc} {made : Nat} {B : List Dc} {ix : Vw} {mg : Option (Vw × Nat)} {cm pr : Option Vw} {sn : List (Nat × Vw)} {op fi w : Nat} {cc : Option Nat} {off : Bool} {dn : Nat} {hd : Nat → Nat → Nat} {sl : Nat → Option (Nat × Vw)} {m : Nat} {nd : Nat → Nd} {qs : List (Nat × (Nat → Nd))} {w0 w1 : Nat} {H : List (Nat × Nat)} {sk tk : Nat} {CL : List (Nat × Nat × Nat)} {u : Nat} {RR : List (Nat × Nat)}
variable {n' : Nat} {P' : Nat → Nat} {m' : Nat} {nd' : Nat → Nd} {qs' : List (Nat × (Nat → Nd))}
theorem p_prepareX {Q : QI} (h98 : v 98 = bI true) (hX : Q (nI 0) (upd v 99 (nI 1)) f g) : r_prepare Q v f g := by
  unfold r_prepare r_prepare_36 r_prepare_37
  rw [h98]
  exact ⟨fun _ => goF (b1 := false) ⟨fun c => absurd rfl c, fun _ => hX⟩, fun w => absurd w (by decide)⟩
theorem lc_13 (hI : Rel k S dp x out v f g cd dd) (hk : k < 512) (hN : nxR R k dp x out x4) : lw_c13 R xs L dp x out x4 cd dd S v f g := by
  unfold lw_c13
  have hx6 := Rel_x (t := nI 1) (mc := 1) (ms := 6) (by decide) (by decide) hI
  have bd := Rel_bd (by omega) hx6
  have bd0 := Rel_bd (by omega) hI
  obtain ⟨ρ, WL, n, P, ks, A, yn, F, G, ad, c0, c1, n0, P0, n1, P1, hl, hr⟩ := id hI
  obtain ⟨o, so, sd, sg, made, B, ix, mg, cm, pr, sn, op, fi, w, cc, off, dn, hd, sl, m, nd, qs, w0, w1, H, sk, tk, CL, u, RR, ⟨a1, a2⟩, ⟨a3, a4⟩, ⟨a5, a6⟩, a7, a8, a9, b1, b2, b3, b7, b8⟩ := id hr
  obtain ⟨⟨i98, i97, i96, i39, i48⟩, iB, iS, iX, iM, iC, iP, iK, iZ, iW⟩ := id a7
  obtain ⟨⟨p1, p2, p3, p4, p5⟩, p6, p7, ⟨p8, p8b, p8c, p8d⟩, p9, p10, p11, p12, p13, p14⟩ := id b1
  have idl : ix.1.length ≤ made := by
    have := nd_len (m := List.range made) p1.1 (fun n hn => List.mem_range.mpr (a2.1 n hn))
    rwa [List.length_range] at this
  have i40 := iP.1
  have hwr : ∀ n, n ∈ ix.1 → ∀ j, j < (sg n).length → f 22 (100 * n + j) = bI (wrF cm pr n j) := iW.1
  have p141 := p14.1
  have p142 := p14.2
  have i200 := iX.2.1
  have B12 : B.length ≤ 12 := iB.2.1
  unfold kw_L_prepare
  cases off with
  | true =>
    exact ⟨1, 6, bd, hl.1.1, Or.inr ⟨1, 6, by omega, x_prepare a1 (Or.inl rfl) (by omega) (by omega) (by omega) ⟨by omega, bd, p_prepareX i98 (tl_x (by decide) bd upd_at (hN _ _ _ _ _ _ hx6))⟩⟩⟩
  | false =>
    have i97 := i97 rfl
    by_cases hy : pr ≠ none ∨ (200 ≤ made ∧ B ≠ [])
    · refine ⟨1, 6, bd, hl.1.1, Or.inr ⟨1, 6, by omega, x_prepare a1 (Or.inr hy) (by omega) (by omega) (by omega) ⟨by omega, bd, ?_⟩⟩⟩
      have no : pr = none → (made < 200 ∨ B = []) → False := fun e1 e2 => by
        rcases hy with hy | ⟨h1, h2⟩
        · exact hy e1
        · rcases e2 with e2 | e2
          · omega
          · exact h2 e2
      exact p_prepare i98 i97 i96 p10 iB iS iX p1.1 i40 (fun _ => by omega) hwr iZ.1 iZ.2.1 (fun _ => tl_x (by decide) bd upd_at (hN _ _ _ _ _ _ hx6)) (fun j v' f' _ e1 e2 => (no e1 e2).elim) (fun made' sg' ix' w' cc' dn' hd' c v' f' g' _ e1 e2 => (no e1 e2).elim) (fun made' sg' ix' w' cc' dn' hd' v' f' g' _ e1 e2 => (no e1 e2).elim)
    · obtain rfl : pr = none := by
        cases pr with
        | none => rfl
        | some s => exact absurd (Or.inl (by simp)) hy
      have h2 : made < 200 ∨ B = [] := by
        by_cases c : B = []
        · exact Or.inr c
        · rcases Nat.lt_or_ge made 200 with z | z
          · exact Or.inl z
          · exact absurd (Or.inr ⟨z, c⟩) hy
      have hy' : ¬ (false = true ∨ (none : Option Vw) ≠ none ∨ (200 ≤ made ∧ B ≠ [])) := fun c => by
        rcases c with c | c | ⟨c, c2⟩
        · exact absurd c (by decide)
        · exact c rfl
        · exact h2.elim (fun z => by omega) c2
      have ncm : made ∉ ovL cm := by
        cases cm with
        | none => exact List.not_mem_nil
        | some s => exact fun hin => absurd (a2.2.2.1 s rfl _ hin) (Nat.lt_irrefl _)
      have eW : wrF cm none = wbs cm := rfl
      rw [eW] at hwr
      have eV := wbs_lvF ncm
      obtain ⟨fd, hfd⟩ := gFn_Fd a6
      have sm : sumL (fun n => (sg n).length) ix.1 ≤ smN (fun n => (sg n).length) made := sumL_smN p1.1 (fun n hn => a2.1 n hn)
      obtain ⟨mc, hmc⟩ : ∃ mc, mc = 610 * B.length + 660 := ⟨_, rfl⟩
      obtain ⟨ms, hms⟩ : ∃ ms, ms = 7000 * B.length + 3500 := ⟨_, rfl⟩
      have bd2 : cd + mc ≤ 601024 ∧ dd + ms ≤ 7293033 := by omega
      refine ⟨mc, ms, bd2, hl.1.1, Or.inl ⟨mc, ms, by omega, by omega, g_prepare a1 h2 (g_prep41 a1 a2 hfd p10 (by omega) (by omega) (by omega) (by omega) (fun T ρ' so' sd' made' sg' ix' w' cc' e hk eT gT => cls_out (by omega) (out_fr eT.1 (by decide) o) (fun S8 f90 o8 j8 => ⟨bd2, ?_⟩)) (fun U ρ' j hB hj hc eT gT => cls_out (by omega) (out_fr eT.1 (by decide) o) (fun S8 f90 o8 j8 => ⟨bd2, ?_⟩)) (fun U ρ' so' sd' made' sg' ix' w' cc' j e hj hc eT gT => cls_out (by omega) (out_fr eT.1 (by decide) o) (fun S8 f90 o8 j8 => ⟨bd2, ?_⟩)))⟩⟩
      · -- all is written
        obtain ⟨⟨f1, f2, f3⟩, f4, f5, f6, f7, f8, f9, f10⟩ := flS_ok e a2.1 p1 p6 h2 p141
        obtain ⟨k1, k2⟩ := flS_cc e
        have hk : ∀ k, cc = some k → flC B + chN sg' ix' cm + 1 ≤ k := fun k hk0 => by
          have h := hk k hk0
          cases B with
          | nil => exact h
          | cons d B => exact h
        refine p_prepare i98 i97 i96 p10 iB iS iX p1.1 i40 (fun _ => by omega) hwr iZ.1 iZ.2.1 (fun w => absurd w hy') (fun j v' f' _ _ _ hB hj hc => ?_) (fun made2 sg2 ix2 w2 cc2 dn' hd' c v' f' g' _ _ _ e2 _ hc hcl => ?_) (fun made2 sg2 ix2 w2 cc2 dn' hd' v' f' g' _ _ _ e2 _ _ hF h99 h96 h97 h20 hS' hX' hP' hz28 hz23 h22 h23 hz1 hz2 => ?_)
        · have := hk j hc
          have := flC_n hB
          omega
        · obtain ⟨rfl, rfl, rfl, rfl, rfl⟩ := pr5 (e.symm.trans e2)
          rw [k1] at hc
          cases cc with
          | none => exact absurd hc (by simp)
          | some k0 =>
            have := hk k0 rfl
            have : k0 - flC B = c := Option.some.inj hc
            rw [eV, ← chN_dfN] at hcl
            omega
        · obtain ⟨rfl, rfl, rfl, rfl, rfl⟩ := pr5 (e.symm.trans e2)
          rw [eV, ← chN_dfN] at h96 h97
          have lift : ∀ {s : Vw}, vwM made s → vwM made' s := fun h n hn => by have := h n hn; omega
          have vx : ∀ {s : Vw}, vwM made s → vG sg s → vG sg' s := fun h q => vG_ext (fun n hn => f4 n (h n hn)) q
          have hrel : Rel (k + 1) S8 dp x out v' f' g' (cd + mc) (dd + ms) := by
            refine Rel_I (so' := so') (sd' := sd') (sg' := sg') (made' := made') (B' := []) (ix' := ix') (pr' := some ix') (sn' := sn) (sl' := sl) (dn' := dn') (hd' := hd') (w' := w' + (chN sg' ix' cm + 1)) (cc' := cc'.map (fun k => k - (chN sg' ix' cm + 1))) hl a3 a4 a5 a6 a8 a9 b2 b3 eT gT ⟨f5, fun s e => lift (a2.2.1 s e), fun s e => lift (a2.2.2.1 s e), fun s e => by rw [← Option.some.inj e]; exact f5, fun s hs => lift (a2.2.2.2.2 s hs)⟩ f90 o8 hF (by decide) (by decide) (by decide) ⟨⟨by rw [hF.1 98 (by decide)]; exact i98, fun _ => h97, h96, by rw [hF.1 39 (by decide)]; exact i39, by rw [hF.1 48 (by decide)]; exact i48⟩, ⟨h20, by show (0 : Nat) ≤ 12; omega, fun k d hk => absurd (get_lt hk) (Nat.not_lt_zero k)⟩, hS', hX', rMg_up (rM_f hF (by decide) (by decide) iM) (fun s c e n hn => f4 n (a2.2.1 s (by rw [e]; rfl) n hn)), rOv_up (rC_f hF (by decide) (by decide) iC) f1 f4, hP', rLk_up (rK_f hF (by decide) iK) f1 f4, ⟨fun c hc => hz1 c (iZ.1 c hc), fun c hc => hz2 c (iZ.2.1 c hc), hz23, rZ_f hF (by decide) iZ.2.2.2.1, hz28⟩, ⟨fun n hn j hj => ?_, fun p' ep => ?_⟩⟩ ⟨⟨f6, fun s c e => vx (a2.2.1 s (by rw [e]; rfl)) (p2 s c e), fun s e => vx (a2.2.2.1 s e) (p3 s e), fun s e => by rw [← Option.some.inj e]; exact f6, fun s hs => vx (a2.2.2.2.2 s hs) (p5 s hs)⟩, ⟨fun i i' d d' hi => absurd (get_lt hi) (Nat.not_lt_zero i), fun d hd => absurd hd List.not_mem_nil⟩, fun s c e => ?_, ⟨p8, p8b, p8c, by omega⟩, fun w => absurd w (by decide), cc_map (by rw [k1]; exact cc_map p10), fun z => ⟨rfl, ?_⟩, ⟨fun n hn d hd => ?_, fun d hd => absurd hd List.not_mem_nil⟩, p13, f2, ?_⟩ f4 f1 ?_ ?_
            · rw [h22 n hn j hj]
              show bI (ix'.2 n j) = bI (if n ∈ ix'.1 then ix'.2 n j else wbs cm n j)
              rw [if_pos hn]
            · obtain rfl := Option.some.inj ep
              exact ⟨fun n hn j hj => by rw [h23 n hn j hj, eV], fun n hn hnn => absurd hn hnn⟩
            · obtain ⟨p, q1, q2, q3, q4, q5⟩ := p7 s c e
              refine ⟨p, ?_, q2, fun a n hn => f9 _ n (q3 a n hn), ?_, f3 q5⟩
              · obtain ⟨z, hz⟩ := get_ex (l := ix.1) (k := p + 2) (by omega)
                have := get_lt (f9 _ z hz)
                omega
              · rw [mtL_ext (fun n hn => f4 n (a2.2.1 s (by rw [e]; rfl) n hn))]; exact q4
            · have h0 := p11 z
              have e0 := e
              rw [h0.1] at e0
              obtain ⟨hm, -⟩ := pr5 (show (made, sg, ix, w, cc) = _ from e0)
              omega
            · rcases f7 n hn d hd with h | ⟨n2, h, h3⟩
              · exact p12.2 d h
              · exact p12.1 n2 h d h3
            · show smN (fun n => (sg' n).length) made' + 0 + mgC mg ≤ k + 1
              rw [f8]; omega
            · show _ + 610 * (0 + mgC mg) ≤ _; omega
            · show _ + 7000 * (0 + mgC mg) ≤ _; omega
          exact tl_ok bd2 h99 (out_X o8) j8 (hN _ _ _ _ _ _ hrel)
      · -- down while the buffer is written
        refine p_prepare i98 i97 i96 p10 iB iS iX p1.1 i40 (fun _ => by omega) hwr iZ.1 iZ.2.1 (fun w => absurd w hy') (fun j' v' f' _ _ _ _ hj' hc' hF h99 h96 hD => ?_) (fun made2 sg2 ix2 w2 cc2 dn' hd' c v' f' g' _ _ _ e2 hlt => ?_) (fun made2 sg2 ix2 w2 cc2 dn' hd' v' f' g' _ _ _ e2 hlt => ?_)
        · rw [hc] at hc'
          obtain rfl := Option.some.inj hc'
          have hrel : Rel (k + 1) S8 dp x out v' f' g (cd + mc) (dd + ms) := Rel_D hl a3 a4 a5 a6 a8 a9 b2 b3 hfd eT gT a2.2.2.1 f90 o8 hF (by decide) (by decide) (by decide) hD h96 (by rw [hF.1 39 (by decide)]; exact i39) (by rw [hF.1 48 (by decide)]; exact i48) (rS_f hF (by decide) (by decide) (by decide) iS) (rC_f hF (by decide) (by decide) iC) (rZ_f hF (by decide) iZ.1) (rZ_f hF (by decide) iZ.2.1) (rZ_f hF (by decide) iZ.2.2.1) iZ.2.2.2.1 iZ.2.2.2.2 p3 (by omega) (fun z => (p11 z).2) p12.1 p13 ⟨p141, by omega⟩ (by omega) (by omega)
          exact tl_ok bd2 h99 (out_X o8) j8 (hN _ _ _ _ _ _ hrel)
        · have := hlt hB j hc; omega
        · have := hlt hB j hc; omega
      · -- down behind it
        obtain ⟨⟨f1, f2, f3⟩, f4, f5, f6, f7, f8, f9, f10⟩ := flS_ok e a2.1 p1 p6 h2 p141
        obtain ⟨k1, k2⟩ := flS_cc e
        have hc : cc = some (flC B + j) := by
          have h := hc
          cases B with
          | nil => exact h
          | cons d B => exact h
        have kc : cc' = some j := by
          rw [k1, hc]
          show some (flC B + j - flC B) = some j
          rw [Nat.add_sub_cancel_left]
        refine p_prepare i98 i97 i96 p10 iB iS iX p1.1 i40 (fun _ => by omega) hwr iZ.1 iZ.2.1 (fun w => absurd w hy') (fun j' v' f' _ _ _ hB hj' hc' => ?_) (fun made2 sg2 ix2 w2 cc2 dn' hd' c v' f' g' _ _ _ e2 hlt hc' hcl hF h99 h96 hD hS' hz1 hz2 hz23 => ?_) (fun made2 sg2 ix2 w2 cc2 dn' hd' v' f' g' _ _ _ e2 _ hlt => ?_)
        · rw [hc] at hc'
          have := Option.some.inj hc'
          have := flC_n hB
          omega
        · obtain ⟨rfl, rfl, rfl, rfl, rfl⟩ := pr5 (e.symm.trans e2)
          rw [kc] at hc'
          obtain rfl := Option.some.inj hc'
          have vx : ∀ {s : Vw}, vwM made s → vG sg s → vG sg' s := fun h q => vG_ext (fun n hn => f4 n (h n hn)) q
          have hrel : Rel (k + 1) S8 dp x out v' f' g' (cd + mc) (dd + ms) := by
            refine Rel_D (so' := so') (sd' := sd') (sg' := sg') (made' := made') hl a3 a4 a5 a6 a8 a9 b2 b3 hfd eT gT (fun s e n hn => by have := a2.2.2.1 s e n hn; omega) f90 o8 hF (by decide) (by decide) (by decide) hD h96 (by rw [hF.1 39 (by decide)]; exact i39) (by rw [hF.1 48 (by decide)]; exact i48) hS' (rOv_up (rC_f hF (by decide) (by decide) iC) f1 f4) (fun c hc => hz1 c (iZ.1 c hc)) (fun c hc => hz2 c (iZ.2.1 c hc)) hz23 iZ.2.2.2.1 iZ.2.2.2.2 (fun s e => vx (a2.2.2.1 s e) (p3 s e)) (by omega) (fun z => ?_) (fun n hn d hd => ?_) p13 ⟨f2, by rw [f8]; omega⟩ (by omega) (by omega)
            · have h0 := p11 z
              have e0 := e
              rw [h0.1] at e0
              obtain ⟨hm, -⟩ := pr5 (show (made, sg, ix, w, cc) = _ from e0)
              omega
            · rcases f7 n hn d hd with h | ⟨n2, h, h3⟩
              · exact p12.2 d h
              · exact p12.1 n2 h d h3
          exact tl_ok bd2 h99 (out_X o8) j8 (hN _ _ _ _ _ _ hrel)
        · obtain ⟨rfl, rfl, rfl, rfl, rfl⟩ := pr5 (e.symm.trans e2)
          have := hlt j kc
          rw [eV, ← chN_dfN] at this
          omega
end CASW
