/-! both worlds together: calls on the index -/
section CASF
variable {S T U : cS} {ρ ρ' : Nat → Nat} {M Am Fm Gm : List Nat} {v v' : Nat → Int32} {f f' : Nat → Nat → Int32} {g g' : Nat → Nat → Int64} {dp x out k cd dd cd' dd' L : Nat} {x4 : Int32} {xs : Nat → Int32} {R : Int32 → Nat → Nat → cS → (Nat → Int32) → (Nat → Nat → Int32) → (Nat → Nat → Int64) → Prop}
variable {n : Nat} {P : Nat → Nat} {ks : Nat} {A : Nat → Int64} {yn : Nat} {F G : Nat → Int64} {ad : Bool} {c0 c1 n0 : Nat} {P0 : Nat → Nat} {n1 : Nat} {P1 : Nat → Nat} {WL : List Int64} {mc ms : Nat} {l : LGt}
variable {so : Nat → Nat} {sd : Nat → List Nat} {sg : Nat → List Dc} {made : Nat} {B : List Dc} {ix : Vw} {mg : Option (Vw × Nat)} {cm pr : Option Vw} {sn : List (Nat × Vw)} {op fi w : Nat} {cc : Option Nat} {off : Bool} {dn : Nat} {hd : Nat → Nat → Nat} {sl : Nat → Option (Nat × Vw)} {m : Nat} {nd : Nat → Nd} {qs : List (Nat × (Nat → Nd))} {w0 w1 : Nat} {H : List (Nat × Nat)} {sk tk : Nat} {CL : List (Nat × Nat × Nat)} {u : Nat} {RR : List (Nat × Nat)}
variable {so' : Nat → Nat} {sd' : Nat → List Nat} {sg' : Nat → List Dc} {made' : Nat} {B' : List Dc} {ix' : Vw} {mg' : Option (Vw × Nat)} {cm' pr' : Option Vw} {sn' : List (Nat × Vw)} {op' fi' w' : Nat} {cc' : Option Nat} {off' : Bool} {dn' : Nat} {hd' : Nat → Nat → Nat} {sl' : Nat → Option (Nat × Vw)}
theorem rB_f (h : rF Am Fm Gm v f g v' f' g') (h1 : dj [20] Am) (h2 : dj [9, 10, 11, 13] Fm) (h3 : dj [12] Gm) (r : rBf l v f g B) : rBf l v' f' g' B := rBf_fr (h.1 _ (dj_n h1 (by decide))) (h.2.1 _ (dj_n h2 (by decide))) (h.2.1 _ (dj_n h2 (by decide))) (h.2.1 _ (dj_n h2 (by decide))) (h.2.1 _ (dj_n h2 (by decide))) (h.2.2 _ (dj_n h3 (by decide))) r
theorem rS_f (h : rF Am Fm Gm v f g v' f' g') (h1 : dj [26, 29] Am) (h2 : dj [14, 15, 16, 18, 19, 20] Fm) (h3 : dj [17] Gm) (r : rSg l v f g made dn sg hd) : rSg l v' f' g' made dn sg hd := rSg_fr h h1 h2 h3 r
theorem rX_f (h : rF Am Fm Gm v f g v' f' g') (h1 : dj [34] Am) (h2 : dj [21, 24] Fm) (r : rIx v f made sg ix.1 ix.2) : rIx v' f' made sg ix.1 ix.2 := rIx_fr (h.1 _ (dj_n h1 (by decide))) (h.2.1 _ (dj_n h2 (by decide))) (h.2.1 _ (dj_n h2 (by decide))) r
theorem rM_f (h : rF Am Fm Gm v f g v' f' g') (h1 : dj [49, 52, 53] Am) (h2 : dj [33, 34] Fm) (r : rMg v f sg mg) : rMg v' f' sg mg := rMg_fr (h.1 _ (dj_n h1 (by decide))) (h.1 _ (dj_n h1 (by decide))) (h.1 _ (dj_n h1 (by decide))) (h.2.1 _ (dj_n h2 (by decide))) (h.2.1 _ (dj_n h2 (by decide))) r
theorem rC_f (h : rF Am Fm Gm v f g v' f' g') (h1 : dj [35, 37] Am) (h2 : dj [25, 26] Fm) (r : rOv v f 35 37 25 26 made sg cm) : rOv v' f' 35 37 25 26 made sg cm := by
  unfold rOv rVw
  rw [h.1 35 (dj_n h1 (by decide)), h.1 37 (dj_n h1 (by decide)), h.2.1 25 (dj_n h2 (by decide)), h.2.1 26 (dj_n h2 (by decide))]; exact r
theorem rP_f (h : rF Am Fm Gm v f g v' f' g') (h1 : dj [40, 42] Am) (h2 : dj [27, 28] Fm) (r : rOv v f 40 42 27 28 made sg cm) : rOv v' f' 40 42 27 28 made sg cm := by
  unfold rOv rVw
  rw [h.1 40 (dj_n h1 (by decide)), h.1 42 (dj_n h1 (by decide)), h.2.1 27 (dj_n h2 (by decide)), h.2.1 28 (dj_n h2 (by decide))]; exact r
theorem rK_f (h : rF Am Fm Gm v f g v' f' g') (h2 : dj [29, 30, 31, 32] Fm) (r : rLk f made sg sl) : rLk f' made sg sl := rLk_fr (h.2.1 _ (dj_n h2 (by decide))) (h.2.1 _ (dj_n h2 (by decide))) (h.2.1 _ (dj_n h2 (by decide))) (h.2.1 _ (dj_n h2 (by decide))) r
theorem rZ_f {N q : Nat} (h : rF Am Fm Gm v f g v' f' g') (h2 : dj [q] Fm) (r : zRw f q N) : zRw f' q N := by
  unfold zRw
  rw [h.2.1 q (dj_n h2 (List.mem_singleton.mpr rfl))]; exact r
theorem rW_f (h : rF Am Fm Gm v f g v' f' g') (h2 : dj [22, 23] Fm) (r : rWr f sg ix cm pr) : rWr f' sg ix cm pr := by
  unfold rWr
  rw [h.2.1 22 (dj_n h2 (by decide)), h.2.1 23 (dj_n h2 (by decide))]; exact r
theorem mbQ_sg (h : ∀ y, y ∈ CL → sg' y.2.1 = sg y.2.1) : ∀ y, y ∈ CL → sg' y.2.1 = sg y.2.1 ∧ ∀ j, j < (sg y.2.1).length → mbQ qs sg' y.1 y.2.1 j = mbQ qs sg y.1 y.2.1 j := fun y hy => ⟨h y hy, fun j _ => by
  unfold mbQ
  rw [h y hy]⟩
/-- what a call on the index leaves -/
theorem Rel_I (hl : Lp k WL S ρ x v f g n P ks A yn F G ad c0 c1 n0 P0 n1 P1) (a3 : gPr S ρ dp x m nd) (a4 : gQl S ρ dp x qs) (a5 : gRd S ρ x w0 w1) (a6 : gFn S ρ x H sk tk CL u (mbQ qs sg) sg) (a8 : rQ v f g m nd qs) (a9 : rFi v f w0 w1 H sk tk RR) (b2 : pQ m nd qs) (b3 : pF k made qs w0 w1 CL u RR) (e : evI S T ρ ρ' x) (gI : gIx T ρ' dp x so' sd' sg' made' B' ix' mg' cm' pr' sn' op' fi' w' cc' off') (hM : ixM made' ix' mg' cm' pr' sn') (f90 : fr T U ρ' ρ' [90]) (oU : cA U out 15 ∧ cn U out = 1 ∧ ρ' out = 90) (hF : rF Am Fm Gm v f g v' f' g') (h1 : dj [71, 72, 73, 85, 88, 89, 90, 2, 6, 9, 10, 13, 14] Am) (h2 : dj [40, 41, 42, 43, 44, 46, 47, 48, 49, 57, 58, 59, 60, 2, 8] Fm) (h3 : dj [45, 1, 4, 5, 6, 7] Gm) (rI' : rI v' f' g' (lgT ks A yn F G) made' dn' sg' hd' B' ix' mg' cm' pr' sl' op' fi' w' cc' off') (pI' : pI (k + 1) WL (lgT ks A yn F G) ad sg' made' B' ix' mg' cm' pr' sn' sl' op' cc' off') (hsg : ∀ n, n < made → sg' n = sg n) (hmd : made ≤ made') (q1 : cd' + 610 * (B'.length + mgC mg') ≤ 174 + 1170 * (k + 1)) (q2 : dd' + 7000 * (B'.length + mgC mg') ≤ 409927 + 13440 * (k + 1)) : Rel (k + 1) U dp x out v' f' g' cd' dd' := by
  obtain ⟨eF, ex, ex1⟩ := e
  have hx := hl.1
  have xr : ∀ q, q ∉ [354, 355, 356, 357, 358, 359, 360, 361] → cr U q x = cr S q x := fun q hq => (fr_cr f90 gI.1.1 (by rw [gI.1.2.1]; decide)).trans (ex q hq)
  have fU : fr S U ρ ρ' [1, 7, 9, 10, 14, 81, 82, 83, 84, 85, 90] := fr_mix (fr_up eF (by decide)) (fr_up f90 (by decide))
  have xU : ∀ q, cr U q x = cr T q x := fun q => fr_cr f90 gI.1.1 (by rw [gI.1.2.1]; decide)
  have xI : ∀ q, ci U q x = ci T q x := fun q => fr_ci f90 gI.1.1 (by rw [gI.1.2.1]; decide)
  refine ⟨ρ', WL, n, P, ks, A, yn, F, G, ad, c0, c1, n0, P0, n1, P1, Lp_fr fU (by decide) ex1 (fun q hq => xr q (by rcases hq with rfl | rfl <;> decide)) hF (dj_sub h1 (by decide)) (dj_sub h2 (by decide)) (dj_sub h3 (by decide)) hl, oU, so', sd', sg', made', B', ix', mg', cm', pr', sn', op', fi', w', cc', off', dn', hd', sl', m, nd, qs, w0, w1, H, sk, tk, CL, u, RR, ⟨gIx_fk (fr_fk f90 (by decide)) (by decide) hM ex1 (fun q _ => xU q) (fun q _ => xI q) gI, hM⟩, ⟨gPr_f fU (by decide) (by decide) (by decide) (xr _ (by decide)) a3, gQl_f fU (by decide) (by decide) (by decide) (xr _ (by decide)) a4⟩, ⟨gRd_f fU (by decide) (xr _ (by decide)) a5, gFn_ext (mbQ_sg (fun y hy => hsg _ (b3.2.2.1 y hy).2)) (gFn_f fU (by decide) (xr _ (by decide)) (xr _ (by decide)) a6)⟩, rI', rQ_fr hF (dj_sub h1 (by decide)) (dj_sub h2 (by decide)) (dj_sub h3 (by decide)) a8, rFi_fr hF (dj_sub h1 (by decide)) (dj_sub h2 (by decide)) a9, pI', b2, ⟨b3.1, b3.2.1, fun y hy => ⟨(b3.2.2.1 y hy).1, by have := (b3.2.2.1 y hy).2; omega⟩, by have := b3.2.2.2; omega⟩, q1, q2⟩
end CASF
