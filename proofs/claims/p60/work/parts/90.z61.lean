/-! the start: the object is made -/
section X11
variable {S : cS} {ρ : Nat → Nat} {dp x : Nat}
/-- an object is made and kept by x -/
theorem ext_obj {S T U : cS} {ρ ρ' : Nat → Nat} {fld q : Nat} (hx : cA S x 11) (sT : cSub S T (fun _ => False)) (ht : ∀ a, a ∈ cL S → ρ' a = ρ a) (e : U = cSr T fld x (some q)) : cA T x 11 ∧ ext S U ρ ρ' x [fld] ∧ ext T U ρ' ρ' x [fld] ∧ cr U fld x = some q ∧ cA U x 11 := by
  have xT := sub_A1 sT hx
  have eT : ext T U ρ' ρ' x [fld] := ext_r e
  have e0 : ext S T ρ ρ' x [] := ⟨sub_wk sT (fun _ _ z => z.elim), ht, fun p _ => sub_cr sT hx (fun z => z), fun p _ => sub_ci sT hx (fun z => z)⟩
  have e1 := ext_tr e0 eT
  exact ⟨xT, e1, eT, hr_Sr_s e, ext_A eT xT⟩
theorem g_made {Q : cS → Prop} {P P0 P1 : Nat → Nat} {so : Nat → Nat} {sd : Nat → List Nat} {sg : Nat → List Dc} {lv : Nat → Nat → Bool} {nd : Nat → Nd} {mb : Nat → Nat → Nat → Bool} {mc ms : Nat} (hx : cA S x 11) (hρ : ρ x = 1) (hm : 107 ≤ mc) (hs : 6671 ≤ ms) (h : ∀ T ρ', gLD T ρ' x 0 P 0 (fun _ => 0) 0 (fun _ => 0) (fun _ => 0) false (nI 0) (nI 0) 0 P0 0 P1 → gIx T ρ' dp x so sd sg 0 [] ([], lv) none none none [] 0 0 0 none false → gPr T ρ' dp x 0 nd → gQl T ρ' dp x [] → gRd T ρ' x 3 1 → gFn T ρ' x [] 0 0 [] 0 mb sg → Q T) : k_X11_init Q dp mc ms x S := by
  unfold k_X11_init
  have nf : ∀ {U V : cS} {q : Nat}, q ∉ cL U → cSub U V (fun z => z = q) → cSub U V (fun _ => False) := fun hq s => sub_wk s (fun a ha z => absurd z (cm_nq hq ha))
  have nI' : ∀ {F : List Nat} {p : Nat}, F.contains p = false → p ∉ F := fun h c => by rw [List.contains_iff_mem.mpr c] at h; exact Bool.noConfusion h
  -- the language
  refine ⟨⟨by omega, by omega⟩, fun q1 hq1 S2 e2 => ⟨8, 95, by omega, by omega, ?_⟩⟩
  have s2 : cSub S S2 (fun _ => False) := e2 ▸ sub_N hq1
  refine q_lgInit (ρ := rtg S id ρ 2) (P := P) ⟨hm_No e2, hk_No e2⟩ (rtg_n hq1) (Nat.le_refl _) (Nat.le_refl _) (fun S5 ρ5 p s5 t5 gl5 c96 gp5 => ?_)
  have b5 : cSub S S5 (fun _ => False) := sub_tr s2 s5 (fun a ha z => absurd z (cm_nq hq1 ha))
  have u5 : ∀ a, a ∈ cL S → ρ5 a = ρ a := fun a ha => (t5 a (s2 a ha).1.1).trans (rtg_o ha)
  refine ⟨sub_A1 b5 hx, fun S6 e6 => ?_⟩
  obtain ⟨x5, E6, F6, c352, x6⟩ := ext_obj hx b5 u5 e6
  -- the draft
  refine ⟨⟨by omega, by omega⟩, fun q7 hq7 S8 e8 => ⟨8, 90, by omega, by omega, ?_⟩⟩
  have s8 : cSub S6 S8 (fun _ => False) := e8 ▸ sub_N hq7
  refine q_docInit (ρ := rtg S6 id ρ5 4) (P0 := P0) (P1 := P1) ⟨hm_No e8, hk_No e8⟩ (rtg_n hq7) (Nat.le_refl _) (Nat.le_refl _) (fun S11 ρ11 s11 t11 gd11 => ?_)
  have b11 : cSub S6 S11 (fun _ => False) := sub_tr s8 s11 (fun a ha z => absurd z (cm_nq hq7 ha))
  have u11 : ∀ a, a ∈ cL S6 → ρ11 a = ρ5 a := fun a ha => (t11 a (s8 a ha).1.1).trans (rtg_o ha)
  refine ⟨sub_A1 b11 x6, fun S12 e12 => ?_⟩
  obtain ⟨x11, E12, F12, c353, x12⟩ := ext_obj x6 b11 u11 e12
  -- the buffer
  refine ⟨⟨by omega, by omega⟩, fun q13 hq13 S14 e14 => ⟨⟨by omega, by omega⟩, q_newList (kk := 0) hq13 e14 dp_O (Or.inl rfl) (fun S15 s15 l15 => ?_)⟩⟩
  obtain ⟨ρ15, h15⟩ : ∃ r, r = rtg S12 id ρ11 7 := ⟨_, rfl⟩
  refine ⟨sub_A1 s15 x12, fun S16 e16 => ?_⟩
  obtain ⟨x15, E16, F16, c354, x16⟩ := ext_obj (ρ := ρ11) (ρ' := ρ15) x12 s15 (fun a ha => by rw [h15]; exact rtg_o ha) e16
  have ρ13 : ρ15 q13 = 7 := by rw [h15]; exact rtg_n hq13
  -- the index
  refine ⟨⟨by omega, by omega⟩, fun q17 hq17 S18 e18 => ⟨1, 3, by omega, by omega, ?_⟩⟩
  have s18 : cSub S16 S18 (fun _ => False) := e18 ▸ sub_N hq17
  refine q_vinit (so := so) (sd := sd) (sg := sg) (lv := lv) ⟨hm_No e18, hk_No e18⟩ dp_O (Nat.le_refl _) (Nat.le_refl _) (fun S21 lh s21 _ hlh vw => ?_)
  have b21 : cSub S16 S21 (fun _ => False) := sub_tr s18 s21 (fun a ha z => absurd z (cm_nq hq17 ha))
  obtain ⟨ρ21, h21⟩ : ∃ r : Nat → Nat, r = fun a => if a ∈ cL S16 then ρ15 a else if a = q17 then 10 else 9 := ⟨_, rfl⟩
  refine ⟨sub_A1 b21 x16, fun S22 e22 => ?_⟩
  obtain ⟨x21, E22, F22, c355, x22⟩ := ext_obj (ρ := ρ15) (ρ' := ρ21) x16 b21 (fun a ha => by rw [h21]; exact if_pos ha) e22
  have lh16 : lh ∉ cL S16 := fun z => hlh (s18 lh z).1.1
  have lhq : lh ≠ q17 := fun z => hlh (by rw [z]; exact hm_No e18)
  have ρ17 : ρ21 q17 = 10 := by rw [h21]; show (if q17 ∈ cL S16 then ρ15 q17 else if q17 = q17 then 10 else 9) = 10; rw [if_neg hq17, if_pos rfl]
  have ρlh : ρ21 lh = 9 := by rw [h21]; show (if lh ∈ cL S16 then ρ15 lh else if lh = q17 then 10 else 9) = 9; rw [if_neg lh16, if_neg lhq]
  refine ⟨x22, fun S23 e23 => ?_⟩
  have E23 : ext S22 S23 ρ21 ρ21 x [356] := ext_r e23
  have x23 := ext_A E23 x22
  refine ⟨x23, fun S24 e24 => ?_⟩
  have E24 : ext S23 S24 ρ21 ρ21 x [357] := ext_i e24
  have x24 := ext_A E24 x23
  refine ⟨x24, fun S25 e25 => ?_⟩
  have E25 : ext S24 S25 ρ21 ρ21 x [358] := ext_r e25
  have x25 := ext_A E25 x24
  refine ⟨x25, fun S26 e26 => ?_⟩
  have E26 : ext S25 S26 ρ21 ρ21 x [359] := ext_r e26
  have x26 := ext_A E26 x25
  -- snapshots
  refine ⟨⟨by omega, by omega⟩, fun q27 hq27 S28 e28 => ⟨⟨by omega, by omega⟩, q_newList (kk := 10) hq27 e28 dp_O (Or.inr (Or.inr (Or.inr (Or.inr (Or.inr rfl))))) (fun S29 s29 l29 => ?_)⟩⟩
  obtain ⟨ρ29, h29⟩ : ∃ r, r = rtg S26 id ρ21 14 := ⟨_, rfl⟩
  refine ⟨sub_A1 s29 x26, fun S30 e30 => ?_⟩
  obtain ⟨x29, E30, F30, c360, x30⟩ := ext_obj (ρ := ρ21) (ρ' := ρ29) x26 s29 (fun a ha => by rw [h29]; exact rtg_o ha) e30
  have ρ27 : ρ29 q27 = 14 := by rw [h29]; exact rtg_n hq27
  refine ⟨x30, fun S31 e31 => ?_⟩
  have E31 : ext S30 S31 ρ29 ρ29 x [361] := ext_i e31
  have x31 := ext_A E31 x30
  -- the parts
  refine ⟨⟨by omega, by omega⟩, fun q32 hq32 S33 e33 => ⟨4, 22, by omega, by omega, q_qInit hq32 e33 dp_O (Nat.le_refl _) (Nat.le_refl _) (fun S36 b s36 hb hQ => ?_)⟩⟩
  obtain ⟨ρ36, h36⟩ : ∃ r : Nat → Nat, r = fun a => if a ∈ cL S31 then ρ29 a else if a = b then 18 else 13 := ⟨_, rfl⟩
  have gq36 := hQ ρ36 (fun a ha hne => by rw [h36]; show (if a ∈ cL S31 then ρ29 a else if a = b then 18 else 13) = 13; rw [if_neg ha, if_neg hne]) (by rw [h36]; show (if b ∈ cL S31 then ρ29 b else if b = b then 18 else 13) = 18; rw [if_neg hb, if_pos rfl]) nd
  refine ⟨sub_A1 s36 x31, fun S37 e37 => ?_⟩
  obtain ⟨x36, E37, F37, c362, x37⟩ := ext_obj (ρ := ρ29) (ρ' := ρ36) x31 s36 (fun a ha => by rw [h36]; exact if_pos ha) e37
  -- the queries
  refine ⟨⟨by omega, by omega⟩, fun q38 hq38 S39 e39 => ⟨⟨by omega, by omega⟩, q_newList (kk := 6) hq38 e39 dp_O (Or.inr (Or.inr (Or.inr (Or.inr (Or.inl rfl))))) (fun S40 s40 l40 => ?_)⟩⟩
  obtain ⟨ρ40, h40⟩ : ∃ r, r = rtg S37 id ρ36 16 := ⟨_, rfl⟩
  refine ⟨sub_A1 s40 x37, fun S41 e41 => ?_⟩
  obtain ⟨x40, E41, F41, c363, x41⟩ := ext_obj (ρ := ρ36) (ρ' := ρ40) x37 s40 (fun a ha => by rw [h40]; exact rtg_o ha) e41
  have ρ38 : ρ40 q38 = 16 := by rw [h40]; exact rtg_n hq38
  -- the reader
  refine ⟨⟨by omega, by omega⟩, fun q42 hq42 S43 e43 => ⟨61, 5510, by omega, by omega, ?_⟩⟩
  have s43 : cSub S41 S43 (fun _ => False) := e43 ▸ sub_N hq42
  refine q_rdInit (ρ := rtg S41 id ρ40 19) ⟨hm_No e43, hk_No e43⟩ (rtg_n hq42) (Nat.le_refl _) (Nat.le_refl _) (fun S46 ρ46 wr mo fo ro pl ra gi mk fs rw s46 t46 rd46 ra46 => ?_)
  have b46 : cSub S41 S46 (fun _ => False) := sub_tr s43 s46 (fun a ha z => absurd z (cm_nq hq42 ha))
  have u46 : ∀ a, a ∈ cL S41 → ρ46 a = ρ40 a := fun a ha => (t46 a (s43 a ha).1.1).trans (rtg_o ha)
  refine ⟨sub_A1 b46 x41, fun S47 e47 => ?_⟩
  obtain ⟨x46, E47, F47, c364, x47⟩ := ext_obj x41 b46 u46 e47
  -- the finder
  refine ⟨⟨by omega, by omega⟩, fun q48 hq48 S49 e49 => ?_⟩
  have s49 : cSub S47 S49 (fun _ => False) := e49 ▸ sub_N hq48
  refine ⟨sub_A1 s49 x47, q42, (sub_cr s49 x47 (fun z => z)).trans c364, 16, 900, by omega, by omega, ?_⟩
  refine q_fdInit (ρ := rtg S47 id ρ46 21) ⟨hm_No e49, hk_No e49⟩ (rtg_n hq48) (Nat.le_refl _) (Nat.le_refl _) (fun S53 ρ53 hk hr cq cs ct cm st sp cmr s53 t53 fk53 fi53 => ?_)
  have b53 : cSub S47 S53 (fun _ => False) := sub_tr s49 s53 (fun a ha z => absurd z (cm_nq hq48 ha))
  have u53 : ∀ a, a ∈ cL S47 → ρ53 a = ρ46 a := fun a ha => (t53 a (s49 a ha).1.1).trans (rtg_o ha)
  refine ⟨sub_A1 b53 x47, fun S54 e54 => ?_⟩
  obtain ⟨x53, E54, F54, c365, x54⟩ := ext_obj x47 b53 u53 e54
  refine ⟨x54, fun S55 e55 => ?_⟩
  have E55 : ext S54 S55 ρ53 ρ53 x [366] := ext_i e55
  have x55 := ext_A E55 x54
  refine ⟨x55, fun S56 e56 => ?_⟩
  have E56 : ext S55 S56 ρ53 ρ53 x [367] := ext_i e56
  have x56 := ext_A E56 x55
  refine ⟨x56, fun S57 e57 => ?_⟩
  have E57 : ext S56 S57 ρ53 ρ53 x [368] := ext_i e57
  have x57 := ext_A E57 x56
  refine ⟨x57, fun S58 e58 => ?_⟩
  have E58 : ext S57 S58 ρ53 ρ53 x [369] := ext_i e58
  have x58 := ext_A E58 x57
  refine ⟨x58, fun S59 e59 => ⟨⟨by omega, by omega⟩, ?_⟩⟩
  have E59 : ext S58 S59 ρ53 ρ53 x [370] := ext_i e59
  have y58 := E59
  have y57 := ext_tr E58 y58
  have y56 := ext_tr E57 y57
  have y55 := ext_tr E56 y56
  have y54 := ext_tr E55 y55
  have y47 := ext_tr E54 y54
  have y41 := ext_tr E47 y47
  have y37 := ext_tr E41 y41
  have y31 := ext_tr E37 y37
  have y30 := ext_tr E31 y31
  have y26 := ext_tr E30 y30
  have y25 := ext_tr E26 y26
  have y24 := ext_tr E25 y25
  have y23 := ext_tr E24 y24
  have y22 := ext_tr E23 y23
  have y16 := ext_tr E22 y22
  have y12 := ext_tr E16 y16
  have y6 := ext_tr E12 y12
  have y0 := ext_tr E6 y6
  have r5 : ρ5 x = 1 := (u5 x hx.1).trans hρ
  have r11 : ρ11 x = 1 := (u11 x x6.1).trans r5
  have r15 : ρ15 x = 1 := (E16.2.1 x x12.1).trans r11
  have r21 : ρ21 x = 1 := (E22.2.1 x x16.1).trans r15
  have r29 : ρ29 x = 1 := (E30.2.1 x x26.1).trans r21
  have r36 : ρ36 x = 1 := (E37.2.1 x x31.1).trans r29
  have r40 : ρ40 x = 1 := (E41.2.1 x x37.1).trans r36
  have r46 : ρ46 x = 1 := (E47.2.1 x x41.1).trans r40
  have r53 : ρ53 x = 1 := (E54.2.1 x x47.1).trans r46
  have f5 : fr S5 S59 ρ5 ρ53 [1] := ext_fr (ext_tr F6 y6) r5
  have f11 : fr S11 S59 ρ11 ρ53 [1] := ext_fr (ext_tr F12 y12) r11
  have f15 : fr S15 S59 ρ15 ρ53 [1] := ext_fr (ext_tr F16 y16) r15
  have f21 : fr S21 S59 ρ21 ρ53 [1] := ext_fr (ext_tr F22 y22) r21
  have f29 : fr S29 S59 ρ29 ρ53 [1] := ext_fr (ext_tr F30 y30) r29
  have f36 : fr S36 S59 ρ36 ρ53 [1] := ext_fr (ext_tr F37 y37) r36
  have f40 : fr S40 S59 ρ40 ρ53 [1] := ext_fr (ext_tr F41 y41) r40
  have f46 : fr S46 S59 ρ46 ρ53 [1] := ext_fr (ext_tr F47 y47) r46
  have f53 : fr S53 S59 ρ53 ρ53 [1] := ext_fr (ext_tr F54 y54) r53
  have x59 : cA S59 x 11 := ext_A y0 hx
  have k352 := (y6.2.2.1 352 (nI' rfl)).trans c352
  have k353 := (y12.2.2.1 353 (nI' rfl)).trans c353
  have k354 := (y16.2.2.1 354 (nI' rfl)).trans c354
  have k355 := (y22.2.2.1 355 (nI' rfl)).trans c355
  have k356 : cr S59 356 x = none := (y23.2.2.1 356 (nI' rfl)).trans (hr_Sr_s e23)
  have k358 : cr S59 358 x = none := (y25.2.2.1 358 (nI' rfl)).trans (hr_Sr_s e25)
  have k359 : cr S59 359 x = none := (y26.2.2.1 359 (nI' rfl)).trans (hr_Sr_s e26)
  have k360 := (y30.2.2.1 360 (nI' rfl)).trans c360
  have k362 := (y37.2.2.1 362 (nI' rfl)).trans c362
  have k363 := (y41.2.2.1 363 (nI' rfl)).trans c363
  have k364 := (y47.2.2.1 364 (nI' rfl)).trans c364
  have k365 := (y54.2.2.1 365 (nI' rfl)).trans c365
  have j357 : ci S59 357 x = nI 0 := (y24.2.2.2 357 (nI' rfl)).trans (hi_Si_s e24)
  have j361 : ci S59 361 x = nI 0 := (y31.2.2.2 361 (nI' rfl)).trans (hi_Si_s e31)
  have j366 : ci S59 366 x = nI 0 := (y55.2.2.2 366 (nI' rfl)).trans (hi_Si_s e55)
  have j367 : ci S59 367 x = nI 0 := (y56.2.2.2 367 (nI' rfl)).trans (hi_Si_s e56)
  have j368 : ci S59 368 x = nI 0 := (y57.2.2.2 368 (nI' rfl)).trans (hi_Si_s e57)
  have j369 : ci S59 369 x = -1 := (y58.2.2.2 369 (nI' rfl)).trans (hi_Si_s e58)
  have j370 : ci S59 370 x = bI false := hi_Si_s e59
  have gsg : gSegs S59 ρ53 dp so sd sg 0 := fun n hn => absurd hn (Nat.not_lt_zero n)
  have rd59 := rdr_fr f46 (by decide) (by decide) (fun a ha ht => f46.2 a ha (by rcases ht with e | e | e | e | e | e <;> rw [e] <;> decide)) rd46
  have fk59 := fdK_f f53 (by decide) fk53
  have fd1 : ∀ q, ci S59 q q48 = ci S53 q q48 := fun q => fr_ci f53 fk53.1 (by rw [fk53.2.1]; decide)
  obtain ⟨fi33, fi36, fi37, fi38, fi39⟩ := fi53
  obtain ⟨l15b, t15⟩ := fr_ls f15 (τ := 7) (by decide) l15 (fun z hz => by rw [ls0_F l15 hz]; exact ρ13)
  obtain ⟨l29b, t29⟩ := fr_ls f29 (τ := 14) (by decide) l29 (fun z hz => by rw [ls0_F l29 hz]; exact ρ27)
  obtain ⟨l40b, t40⟩ := fr_ls f40 (τ := 16) (by decide) l40 (fun z hz => by rw [ls0_F l40 hz]; exact ρ38)
  have gv21 : gVw S21 ρ21 dp so sd sg 9 10 q17 [] lv := ⟨lh, 0, [], vw, by decide, fun i j y z r hi => absurd (get_lt hi) (Nat.not_lt_zero i), ρ17, fun z hz => by rw [ls0_F vw.2.2.1 hz]; exact ρlh, fun y hy => absurd hy List.not_mem_nil⟩
  have gv59 : gVw S59 ρ53 dp so sd sg 9 10 q17 [] lv := gVw_fr (made := 0) f21 (by decide) (by decide) gsg (fun n hn => absurd hn List.not_mem_nil) gv21
  have gl59 := gLg_fr f5 (by decide) gl5
  have c96b : cr S59 96 q1 = some p := (fr_cr f5 gl5.1.1 (by rw [gl5.2.2 q1 (Or.inl rfl)]; decide)).trans c96
  refine h S59 ρ53 ⟨x59, r53, q1, q7, p, k352, k353, gl59, c96b, gTx_fr f5 (by decide) gp5, gDr_fr f11 (by decide) (by decide) (by decide) gd11⟩ ⟨⟨x59, r53, dp_O⟩, gsg, ⟨q13, [], 0, k354, l15b, t15, Or.inl rfl, rfl, Nat.zero_le _, fun i D d hi => absurd (get_lt hi) (Nat.not_lt_zero i)⟩, ⟨q17, k355, gv59⟩, ⟨by rw [k356]; trivial, j357⟩, by rw [k358]; trivial, by rw [k359]; trivial, ⟨[], ⟨q27, 0, k360, l29b, t29, Or.inl rfl⟩, trivial⟩, j361, j366, j367, j368, j369, j370⟩ ⟨q32, k362, gQy_f f36 (by decide) (by decide) (by decide) gq36⟩ ⟨q38, [], 0, k363, l40b, t40, Or.inl rfl, by decide, trivial⟩ ⟨q42, wr, mo, fo, ro, pl, ra, gi, mk, fs, rw, k364, rd59, fun _ => 0, fun _ => Nat.zero_le _, fun i hi => ?_⟩ ⟨q42, q48, hk, hr, cq, cs, ct, cm, st, sp, cmr, k364, k365, fk59, ⟨(fd1 33).trans fi33, Nat.zero_le _, fun i y hy => absurd (get_lt hy) (Nat.not_lt_zero i)⟩, (fd1 36).trans fi36, (fd1 37).trans fi37, ⟨(fd1 38).trans fi38, Nat.zero_le _, (fd1 39).trans fi39, fun i y hy => absurd (get_lt hy) (Nat.not_lt_zero i)⟩⟩
  have r2 := rd46.2.2.2.2.2.2.2.1
  rw [sub_cI f46.1 r2.2.1 (by rw [r2.2.2.2]; decide)]
  exact ra46 i hi
end X11
