/-! both worlds together: going DOWN; finish, flush -/
theorem fnd_ext {f : Nat → Bool} {n : Nat} {L L' : List Dc} (h : L' = L) : fndJ f n L'.length = fndJ f n L.length := by rw [h]
theorem mtL_ext {sg sg' : Nat → List Dc} {f : Nat → Nat → Bool} : ∀ {ids : List Nat}, (∀ n, n ∈ ids → sg' n = sg n) → mtL sg' f ids = mtL sg f ids
  | [], _ => rfl
  | n :: ids, h => by
    have ih := mtL_ext (sg := sg) (sg' := sg') (f := f) (ids := ids) (fun m hm => h m (List.mem_cons_of_mem _ hm))
    unfold mtL at ih ⊢
    rw [List.flatMap_cons, List.flatMap_cons, ih, h n List.mem_cons_self]
theorem vG_ext {sg sg' : Nat → List Dc} {s : Vw} (h : ∀ n, n ∈ s.1 → sg' n = sg n) (g : vG sg s) : vG sg' s := ⟨g.1, fun key n j d n' j' d' h1 h2 h3 h4 => g.2 key n j d n' j' d' h1 h2 (by rw [← h n h1]; exact h3) (by rw [← h n' h2]; exact h4)⟩
theorem smN_ext {F G : Nat → Nat} : ∀ {N : Nat}, (∀ n, n < N → F n = G n) → smN F N = smN G N
  | 0, _ => rfl
  | N + 1, h => by rw [smN, smN, smN_ext (fun n hn => h n (by omega)), h N (Nat.lt_succ_self N)]
section DWN
variable {S T U S8 : cS} {ρ ρ' : Nat → Nat} {M Am Fm Gm : List Nat} {v v' : Nat → Int32} {f f' : Nat → Nat → Int32} {g g' : Nat → Nat → Int64} {dp x out k cd dd cd' dd' L : Nat} {x4 : Int32} {xs : Nat → Int32} {R : Int32 → Nat → Nat → cS → (Nat → Int32) → (Nat → Nat → Int32) → (Nat → Nat → Int64) → Prop}
variable {n : Nat} {P : Nat → Nat} {ks : Nat} {A : Nat → Int64} {yn : Nat} {F G : Nat → Int64} {ad : Bool} {c0 c1 n0 : Nat} {P0 : Nat → Nat} {n1 : Nat} {P1 : Nat → Nat} {WL : List Int64} {l : LGt}
variable {so : Nat → Nat} {sd : Nat → List Nat} {sg : Nat → List Dc} {made : Nat} {cm pr : Option Vw} {mg : Option (Vw × Nat)} {op fi w : Nat} {m : Nat} {nd : Nat → Nd} {qs : List (Nat × (Nat → Nd))} {w0 w1 : Nat} {H : List (Nat × Nat)} {sk tk : Nat} {CL : List (Nat × Nat × Nat)} {u : Nat} {RR : List (Nat × Nat)} {sl : Nat → Option (Nat × Vw)}
variable {so' : Nat → Nat} {sd' : Nat → List Nat} {sg' : Nat → List Dc} {made' : Nat} {op' fi' w' : Nat} {dn' : Nat} {hd' : Nat → Nat → Nat} {lv' : Nat → Nat → Bool} {fd : Nat}
theorem rOv_up {p1 p2 p3 p4 : Nat} (h : rOv v f p1 p2 p3 p4 made sg cm) (hm : made ≤ made') (he : ∀ n, n < made → sg' n = sg n) : rOv v f p1 p2 p3 p4 made' sg' cm := by
  refine ⟨h.1, fun s e => ?_⟩
  obtain ⟨a1, a2, a3, a4⟩ := h.2 s e
  refine ⟨a1, a2, fun k n hk => ⟨(a3 k n hk).1, by have := (a3 k n hk).2; omega⟩, fun n hn j hj => ?_⟩
  obtain ⟨k, hk⟩ := List.mem_iff_getElem?.mp hn
  rw [he n (a3 k n hk).2] at hj
  exact a4 n hn j hj
theorem rLk_up (h : rLk f made sg sl) (hm : made ≤ made') (he : ∀ n, n < made → sg' n = sg n) : rLk f made' sg' sl := by
  intro k hk
  refine ⟨(h k hk).1, fun s e => ?_⟩
  obtain ⟨a1, a2, a3, a4, a5⟩ := (h k hk).2 s e
  refine ⟨a1, a2, a3, fun j n hj => ⟨(a4 j n hj).1, by have := (a4 j n hj).2; omega⟩, fun n hn j hj => ?_⟩
  obtain ⟨i, hi⟩ := List.mem_iff_getElem?.mp hn
  rw [he n (a4 i n hi).2] at hj
  exact a5 n hn j hj
theorem rMg_up (h : rMg v f sg mg) (he : ∀ s c, mg = some (s, c) → ∀ n, n ∈ s.1 → sg' n = sg n) : rMg v f sg' mg := by
  refine ⟨h.1, fun s c e => ?_⟩
  rw [mtL_ext (he s c e)]
  exact h.2 s c e
/-- the machine is DOWN -/
theorem Rel_D (hl : Lp k WL S ρ x v f g n P ks A yn F G ad c0 c1 n0 P0 n1 P1) (a3 : gPr S ρ dp x m nd) (a4 : gQl S ρ dp x qs) (a5 : gRd S ρ x w0 w1) (a6 : gFn S ρ x H sk tk CL u (mbQ qs sg) sg) (a8 : rQ v f g m nd qs) (a9 : rFi v f w0 w1 H sk tk RR) (b2 : pQ m nd qs) (b3 : pF k made qs w0 w1 CL u RR) (hfd : gFd S ρ x fd) (e : evD S T ρ ρ' x fd) (gI : gIx T ρ' dp x so' sd' sg' made' [] ([], lv') none cm none [] op' fi' w' none true) (hcm : ovM made' cm) (f90 : fr T U ρ' ρ' [90]) (oU : cA U out 15 ∧ cn U out = 1 ∧ ρ' out = 90) (hF : rF Am Fm Gm v f g v' f' g') (h1 : dj [71, 72, 73, 2, 6, 9, 10, 13, 14, 35, 37] Am) (h2 : dj [40, 41, 42, 43, 44, 46, 47, 48, 49, 2, 8, 25, 26, 28] Fm) (h3 : dj [45, 1, 4, 5, 6, 7] Gm) (hD : rDn v' f') (h96 : v' 96 = nI w') (h39 : v' 39 = nI fi') (h48 : v' 48 = nI op') (hs : rSg (lgT ks A yn F G) v' f' g' made' dn' sg' hd') (hC : rOv v' f' 35 37 25 26 made' sg' cm) (z1 : zRw f' 21 20200) (z2 : zRw f' 22 20200) (z3 : zRw f' 23 20200) (z4 : zRw f 26 20200) (z5 : zRw f 28 20200) (q3 : ∀ s, cm = some s → vG sg' s) (q8 : op' ≤ k + 1) (q11 : ad = false → made' = 0) (q12 : ∀ n, n < made' → ∀ d, d ∈ sg' n → tIn WL (lgT ks A yn F G) d) (q13 : scW (lgT ks A yn F G)) (q14 : made' ≤ 201 ∧ smN (fun n => (sg' n).length) made' ≤ k + 1) (q1 : cd' ≤ 174 + 1170 * (k + 1)) (q2 : dd' ≤ 409927 + 13440 * (k + 1)) : Rel (k + 1) U dp x out v' f' g' cd' dd' := by
  have dF := gFn_d (mb' := mbQ qs sg') (sg' := sg') hfd.1 e a6
  obtain ⟨eF, ex, ⟨ex1, -⟩, -⟩ := e
  have hx := hl.1
  obtain ⟨d98, d20, d49, d40, d85, d88, d89, d90, d34, d29⟩ := hD
  have xr : ∀ q, q ∉ [354, 355, 356, 357, 358, 359, 360, 361] → cr U q x = cr S q x := fun q hq => (fr_cr f90 gI.1.1 (by rw [gI.1.2.1]; decide)).trans (ex q hq)
  have fU : fr S U ρ ρ' [1, 7, 9, 10, 14, 21, 81, 82, 83, 84, 85, 90] := fr_mix (fr_up eF (by decide)) (fr_up f90 (by decide))
  have xU : ∀ q, cr U q x = cr T q x := fun q => fr_cr f90 gI.1.1 (by rw [gI.1.2.1]; decide)
  have xI : ∀ q, ci U q x = ci T q x := fun q => fr_ci f90 gI.1.1 (by rw [gI.1.2.1]; decide)
  have hM : ixM made' ([], lv') none cm none [] := ⟨fun n hn => absurd hn List.not_mem_nil, fun w e => absurd e (by simp), hcm, fun w e => absurd e (by simp), fun s hs => absurd hs List.not_mem_nil⟩
  refine ⟨ρ', WL, n, P, ks, A, yn, F, G, ad, c0, c1, n0, P0, n1, P1, Lp_fr fU (by decide) ex1 (fun q hq => xr q (by rcases hq with rfl | rfl <;> decide)) hF (dj_sub h1 (by decide)) (dj_sub h2 (by decide)) (dj_sub h3 (by decide)) hl, oU, so', sd', sg', made', [], ([], lv'), none, cm, none, [], op', fi', w', none, true, dn', hd', fun _ => none, m, nd, qs, w0, w1, [], 0, 0, [], u, [], ⟨gIx_fk (fr_fk f90 (by decide)) (by decide) hM ex1 (fun q _ => xU q) (fun q _ => xI q) gI, hM⟩, ⟨gPr_f fU (by decide) (by decide) (by decide) (xr _ (by decide)) a3, gQl_f fU (by decide) (by decide) (by decide) (xr _ (by decide)) a4⟩, ⟨gRd_f fU (by decide) (xr _ (by decide)) a5, gFn_f f90 (by decide) (xU _) (xU _) dF⟩, ⟨⟨d98, fun w => absurd w (by decide), h96, h39, h48⟩, ⟨d20, by show (0 : Nat) ≤ 12; omega, fun k d hk => absurd (get_lt hk) (Nat.not_lt_zero k)⟩, hs, ⟨d34, by show (0 : Nat) ≤ 200; omega, fun k n hk => absurd (get_lt hk) (Nat.not_lt_zero k), fun n hn => absurd hn List.not_mem_nil⟩, ⟨d49, fun s c e => absurd e (by simp)⟩, hC, ⟨d40, fun s e => absurd e (by simp)⟩, fun k hk => ⟨fun _ => d29 k hk, fun s e => absurd e (by simp)⟩, ⟨z1, z2, z3, rZ_f hF (dj_sub h2 (by decide)) z4, rZ_f hF (dj_sub h2 (by decide)) z5⟩, ⟨fun n hn => absurd hn List.not_mem_nil, fun p e => absurd e (by simp)⟩⟩, rQ_fr hF (dj_sub h1 (by decide)) (dj_sub h2 (by decide)) (dj_sub h3 (by decide)) a8, ⟨by rw [hF.2.1 49 (dj_n h2 (by decide))]; exact a9.1, ⟨d88, by show (0 : Nat) ≤ 20; omega, fun i x hx => absurd (get_lt hx) (Nat.not_lt_zero i)⟩, d89, d90, ⟨d85, by show (0 : Nat) ≤ 8; omega, fun i x hx => absurd (get_lt hx) (Nat.not_lt_zero i)⟩⟩, ⟨⟨⟨List.nodup_nil, fun key n j d n' j' d' h => absurd h List.not_mem_nil⟩, fun s c e => absurd e (by simp), q3, fun s e => absurd e (by simp), fun s hs => absurd hs List.not_mem_nil⟩, ⟨fun i i' d d' hi => absurd (get_lt hi) (Nat.not_lt_zero i), fun d hd => absurd hd List.not_mem_nil⟩, fun s c e => absurd e (by simp), ⟨List.Perm.refl _, List.nodup_nil, fun s hs => absurd hs List.not_mem_nil, q8⟩, fun _ => ⟨rfl, rfl, rfl, rfl, rfl⟩, fun j e => absurd e (by simp), fun z => ⟨rfl, q11 z⟩, ⟨q12, fun d hd => absurd hd List.not_mem_nil⟩, q13, q14.1, q14.2⟩, b2, ⟨b3.1, ⟨[], List.Perm.refl _, rfl, List.Pairwise.nil, fun x hx => absurd hx List.not_mem_nil, List.nodup_nil, Nat.zero_le _⟩, fun y hy => absurd hy List.not_mem_nil, by have := b3.2.2.2; omega⟩, q1, q2⟩
end DWN
