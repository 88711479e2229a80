/-! the class: find, hits -/
theorem jc_some {v w : Nat → Option Nat} {f : Nat} (h : ∀ i, (v i).isSome = (w i).isSome) : ∀ n, jc v f n = jc w f n
  | 0 => rfl
  | n + 1 => by rw [jc, jc, jc_some h n, h]
theorem evS_some {nd : Nat → Nd} {gv gv' : Nat → Option Nat} (h : ∀ i, (gv i).isSome = (gv' i).isSome) : ∀ k i, (evS nd gv k i).isSome = (evS nd gv' k i).isSome
  | 0, _ => rfl
  | k + 1, i => by
    have ih := evS_some (nd := nd) h k
    rw [evS, evS]
    by_cases c : nLf (nd k) = true
    · rw [if_pos c, if_pos c]
      by_cases e : i = (qsS nd k).1
      · rw [e, upR_s, upR_s]; exact h _
      · rw [upR_n e, upR_n e]; exact ih i
    · rw [if_neg c, if_neg c]
      by_cases e : i = (qsS nd k).1 - nP (nd k)
      · rw [e, upR_s, upR_s]
        unfold jn
        rw [jc_some ih]
        by_cases c7 : nK (nd k) = 7
        · rw [if_pos c7, if_pos c7]
          by_cases c1 : jc (evS nd gv' k) ((qsS nd k).1 - nP (nd k)) (nP (nd k)) = 1
          · rw [if_pos c1, if_pos c1]; exact ih _
          · rw [if_neg c1, if_neg c1]
        · rw [if_neg c7, if_neg c7]
          by_cases cl : jc (evS nd gv' k) ((qsS nd k).1 - nP (nd k)) (nP (nd k)) < nL (nd k)
          · rw [if_pos cl, if_pos cl]
          · rw [if_neg cl, if_neg cl]; rfl
      · rw [upR_n e, upR_n e]; exact ih i
/-- whether a document matches -/
noncomputable def mtB (e : Nat × (Nat → Nd)) (L : List Dc) (j : Nat) : Bool := (vlN e.2 e.1 0 0 (fun _ => 0) L j).isSome
theorem vl_some {nd : Nat → Nd} {m w0 w1 j : Nat} {rr : Nat → Nat} {L : List Dc} : (vlN nd m w0 w1 rr L j).isSome = mtB (m, nd) L j := by
  refine evS_some (fun i => ?_) _ _
  unfold gvF
  split <;> rfl
noncomputable def mbQ (qs : List (Nat × (Nat → Nd))) (sg : Nat → List Dc) (qn n j : Nat) : Bool := match qs[qn]? with
  | some e => mtB e (sg n) j
  | none => false
/-- a query is well made -/
def qWf (e : Nat × (Nat → Nd)) : Prop := qOk e.2 e.1 ∧ (lfI e.2 e.1).length ≤ 24 ∧ (qsS e.2 e.1).1 = 1 ∧ e.1 < 100
/-- what searches ask of the state -/
def fiOk (sg : Nat → List Dc) (made : Nat) (sn : List (Nat × Vw)) (qs : List (Nat × (Nat → Nd))) (w0 w1 : Nat) : Prop := (∀ n, n < made → tkW (sg n)) ∧ made < 1000 ∧ (∀ s, s ∈ sn → allN sg s.2.2 s.2.1 ≤ 600) ∧ (∀ e, e ∈ qs → qWf e) ∧ w0 ≤ 9 ∧ w1 ≤ 9
/-- the finder of the object -/
def gFn (S : cS) (ρ : Nat → Nat) (x : Nat) (H : List (Nat × Nat)) (sk tk : Nat) (CL : List (Nat × Nat × Nat)) (u : Nat) (mb : Nat → Nat → Nat → Bool) (sg : Nat → List Dc) : Prop := ∃ rd fd hk hr cq cs ct cm st sp cmr, cr S 364 x = some rd ∧ cr S 365 x = some fd ∧ fdK S ρ fd rd hk hr cq cs ct cm st sp cmr ∧ fdH S fd hk hr H ∧ ci S 36 fd = nI sk ∧ ci S 37 fd = nI tk ∧ fdC S fd cq cs ct cmr CL u mb sg
section FN
variable {S T U : cS} {ρ ρ' : Nat → Nat} {M : List Nat} {dp x made w0 w1 : Nat} {so : Nat → Nat} {sd : Nat → List Nat} {sg : Nat → List Dc} {B : List Dc} {ix : Vw} {mg : Option (Vw × Nat)} {cm pr : Option Vw} {sn : List (Nat × Vw)} {op fi w : Nat} {cc : Option Nat} {off : Bool} {qs : List (Nat × (Nat → Nd))} {H : List (Nat × Nat)} {sk tk u : Nat} {CL : List (Nat × Nat × Nat)} {mb : Nat → Nat → Nat → Bool}
theorem fdK_f {fd rd hk hr cq cs ct cm st sp : Nat} {cmr : Nat → Nat} (h : fr S T ρ ρ' M) (hM : [20, 21, 28, 29, 30, 31, 32, 33, 34, 35].all (fun τ => !M.contains τ) = true) (g : fdK S ρ fd rd hk hr cq cs ct cm st sp cmr) : fdK T ρ' fd rd hk hr cq cs ct cm st sp cmr := by
  have nM := nM_of hM
  obtain ⟨g1, g2, g3, g4, g5, g6, g7, g8, g9, g10, g11⟩ := g
  have nf : ρ fd ∉ M := by rw [g2]; exact nM 21 (by decide)
  have rr : ∀ z, cr T z fd = cr S z fd := fun z => fr_cr h g1 nf
  have tg : ∀ {a τ : Nat}, a ∈ cL S → ρ a = τ → τ ∉ M → ρ' a = ρ a := fun ha e hn => h.2 _ ha (by rw [e]; exact hn)
  exact ⟨fr_A h g1, fr_tg h g1.1 g2 (nM 21 (by decide)), (rr _).trans g3, rwT_fr h (rr _) (tg g4.2.1.1 g4.2.2.2 (nM 28 (by decide))) g4, rwT_fr h (rr _) (tg g5.2.1.1 g5.2.2.2 (nM 29 (by decide))) g5, rwT_fr h (rr _) (tg g6.2.1.1 g6.2.2.2 (nM 30 (by decide))) g6, rwT_fr h (rr _) (tg g7.2.1.1 g7.2.2.2 (nM 31 (by decide))) g7, rwT_fr h (rr _) (tg g8.2.1.1 g8.2.2.2 (nM 32 (by decide))) g8, mtT_fr h (nM 20 (by decide)) (rr _) (fun i hi => tg (g9.2.2.2.2.1 i hi).2.1.1 (g9.2.2.2.2.1 i hi).2.2.2 (nM 33 (by decide))) g9, rwT_fr h (rr _) (tg g10.2.1.1 g10.2.2.2 (nM 34 (by decide))) g10, rwT_fr h (rr _) (tg g11.2.1.1 g11.2.2.2 (nM 35 (by decide))) g11⟩
/-- nothing of the finder has changed -/
theorem gFn_f (h : fr S T ρ ρ' M) (hM : [20, 21, 28, 29, 30, 31, 32, 33, 34, 35].all (fun τ => !M.contains τ) = true) (h4 : cr T 364 x = cr S 364 x) (h5 : cr T 365 x = cr S 365 x) (g : gFn S ρ x H sk tk CL u mb sg) : gFn T ρ' x H sk tk CL u mb sg := by
  have nM := nM_of hM
  obtain ⟨rd, fd, hk, hr, cq, cs, ct, cm, st, sp, cmr, g1, g2, g3, g4, g5, g6, g7⟩ := g
  have nf : ρ fd ∉ M := by rw [g3.2.1]; exact nM 21 (by decide)
  have ii : ∀ z, ci T z fd = ci S z fd := fun z => fr_ci h g3.1 nf
  refine ⟨rd, fd, hk, hr, cq, cs, ct, cm, st, sp, cmr, h4.trans g1, h5.trans g2, fdK_f h hM g3, ⟨(ii _).trans g4.1, g4.2.1, ?_⟩, (ii _).trans g5, (ii _).trans g6, (ii _).trans g7.1, g7.2.1, (ii _).trans g7.2.2.1, fun i y hy => ?_⟩
  · obtain ⟨-, -, -, a1, a2, -⟩ := g3
    rw [sub_cI h.1 a1.2.1 (by rw [a1.2.2.2]; exact nM 28 (by decide)), sub_cI h.1 a2.2.1 (by rw [a2.2.2.2]; exact nM 29 (by decide))]
    exact g4.2.2
  · obtain ⟨-, -, -, -, -, a1, a2, a3, a4, -, -⟩ := g3
    have i8 : i < 8 := by have := get_lt hy; have := g7.2.1; omega
    have a4' := a4.2.2.2.2.1 i i8
    rw [sub_cI h.1 a1.2.1 (by rw [a1.2.2.2]; exact nM 30 (by decide)), sub_cI h.1 a2.2.1 (by rw [a2.2.2.2]; exact nM 31 (by decide)), sub_cI h.1 a3.2.1 (by rw [a3.2.2.2]; exact nM 32 (by decide)), sub_cI h.1 a4'.2.1 (by rw [a4'.2.2.2]; exact nM 33 (by decide))]
    exact g7.2.2.2 i y hy
/-- the machine goes DOWN: what was found is forgotten -/
theorem gFn_d {fd : Nat} {mb' : Nat → Nat → Nat → Bool} {sg' : Nat → List Dc} (hx : cr S 365 x = some fd) (d : evD S T ρ ρ' x fd) (g : gFn S ρ x H sk tk CL u mb sg) : gFn T ρ' x [] 0 0 [] u mb' sg' := by
  obtain ⟨rd, fd', hk, hr, cq, cs, ct, cm, st, sp, cmr, g1, g2, g3, g4, g5, g6, g7⟩ := g
  obtain rfl := Option.some.inj (g2.symm.trans hx)
  obtain ⟨f, r, ⟨d1, d2⟩, ⟨d3, d4, d5, d6⟩, d7, d8⟩ := d
  obtain ⟨a1, a2, a3, a4, a5, a6, a7, a8, a9, a10, a11⟩ := g3
  have tg : ∀ {a τ : Nat}, a ∈ cL S → ρ a = τ → τ ∉ [1, 7, 9, 10, 14, 21, 81, 82, 83, 84, 85] → ρ' a = ρ a := fun ha e hn => f.2 _ ha (by rw [e]; exact hn)
  exact ⟨rd, fd', hk, hr, cq, cs, ct, cm, st, sp, cmr, (r _ (by decide)).trans g1, (r _ (by decide)).trans g2, ⟨fr_A f a1, d2, (d8 _).trans a3, rwT_fr f (d8 _) (tg a4.2.1.1 a4.2.2.2 (by decide)) a4, rwT_fr f (d8 _) (tg a5.2.1.1 a5.2.2.2 (by decide)) a5, rwT_fr f (d8 _) (tg a6.2.1.1 a6.2.2.2 (by decide)) a6, rwT_fr f (d8 _) (tg a7.2.1.1 a7.2.2.2 (by decide)) a7, rwT_fr f (d8 _) (tg a8.2.1.1 a8.2.2.2 (by decide)) a8, mtT_fr f (by decide) (d8 _) (fun i hi => tg (a9.2.2.2.2.1 i hi).2.1.1 (a9.2.2.2.2.1 i hi).2.2.2 (by decide)) a9, rwT_fr f (d8 _) (tg a10.2.1.1 a10.2.2.2 (by decide)) a10, rwT_fr f (d8 _) (tg a11.2.1.1 a11.2.2.2 (by decide)) a11⟩, ⟨d3, Nat.zero_le _, fun i y hy => absurd (get_lt hy) (Nat.not_lt_zero i)⟩, d4, d5, d6, Nat.zero_le _, (d7 _ (by decide)).trans g7.2.2.1, fun i y hy => absurd (get_lt hy) (Nat.not_lt_zero i)⟩
theorem gFn_Fd (g : gFn S ρ x H sk tk CL u mb sg) : ∃ fd, gFd S ρ x fd := by
  obtain ⟨rd, fd, hk, hr, cq, cs, ct, cm, st, sp, cmr, g1, g2, g3, -⟩ := g
  exact ⟨fd, g2, g3.1, g3.2.1⟩
/-- what the cache tells may be told otherwise -/
theorem gFn_ext {mb' : Nat → Nat → Nat → Bool} {sg' : Nat → List Dc} (h : ∀ y, y ∈ CL → sg' y.2.1 = sg y.2.1 ∧ ∀ j, j < (sg y.2.1).length → mb' y.1 y.2.1 j = mb y.1 y.2.1 j) (g : gFn S ρ x H sk tk CL u mb sg) : gFn S ρ x H sk tk CL u mb' sg' := by
  obtain ⟨rd, fd, hk, hr, cq, cs, ct, cm, st, sp, cmr, g1, g2, g3, g4, g5, g6, g7⟩ := g
  refine ⟨rd, fd, hk, hr, cq, cs, ct, cm, st, sp, cmr, g1, g2, g3, g4, g5, g6, g7.1, g7.2.1, g7.2.2.1, fun i y hy => ?_⟩
  obtain ⟨y1, y2, y3, y4⟩ := g7.2.2.2 i y hy
  obtain ⟨e1, e2⟩ := h y (List.mem_of_getElem? hy)
  refine ⟨y1, y2, y3, fun j hj => ?_⟩
  rw [e1] at hj
  rw [e2 j hj]; exact y4 j hj
/-- a snapshot and a query are looked for -/
theorem g_two {R : Nat → Nat → cS → Prop} {y : Int32} {k : Nat} {e : Nat × (Nat → Nd)} (g : gIx S ρ dp x so sd sg made B ix mg cm pr sn op fi w cc off) (gl : gQl S ρ dp x qs) (hex : ∃ s, s ∈ sn ∧ nI s.1 = y) (hk : qs[k]? = some e) (h : ∀ V q s, s ∈ sn → nI s.1 = y → gVw S ρ dp so sd sg 11 11 V s.2.1 s.2.2 → gQy S ρ dp 17 17 q e.1 e.2 → R V q S) : k_X11_snapshotOf (fun r_1 S_1 => cA S_1 x 11 ∧ k_X11_queryOf (fun r_2 S_2 => R r_1 r_2 S_2) dp x (nI k) S_1) dp x y S :=
  g_snapOf g hex (fun l i V s _ _ _ hs es gV => ⟨g.1.1, g_queryOf g.1.1 gl hk (fun q gq => h V q s (List.mem_of_getElem? hs) es gV gq)⟩)
theorem g_find {Q : Int32 → cS → Prop} {y : Int32} {k mo : Nat} {e : Nat × (Nat → Nd)} (g : gIx S ρ dp x so sd sg made B ix mg cm pr sn op fi w cc off) (hM : ixM made ix mg cm pr sn) (gl : gQl S ρ dp x qs) (gR : gRd S ρ x w0 w1) (gF : gFn S ρ x H sk tk CL u (mbQ qs sg) sg) (hok : fiOk sg made sn qs w0 w1) (hex : ∃ s, s ∈ sn ∧ nI s.1 = y) (hk : qs[k]? = some e) (hmo : 1 ≤ mo ∧ mo ≤ 20) (hu : u < 2 ^ 29) (hk31 : k < 2 ^ 31) (h : ∀ T s c, s ∈ sn → nI s.1 = y → fk S T ρ ρ [80, 18, 21, 22, 23, 24, 25, 26, 27, 28, 29, 30, 31, 32, 33] → gRd T ρ x w0 w1 → gFn T ρ x (srS e.2 e.1 w0 w1 (rrL e.2 e.1 sg s.2.2 s.2.1) sg s.2.2 mo s.2.1 s.2.1.length).1 (srS e.2 e.1 w0 w1 (rrL e.2 e.1 sg s.2.2 s.2.1) sg s.2.2 mo s.2.1 s.2.1.length).2 c.2.2 c.1 c.2.1 (mbQ qs sg) sg → caR k s.2.1 s.2.1.length (CL, u, 0) c → Q (nI (srS e.2 e.1 w0 w1 (rrL e.2 e.1 sg s.2.2 s.2.1) sg s.2.2 mo s.2.1 s.2.1.length).1.length) T) : k_X11_find Q dp x y (nI k) (nI mo) S := by
  obtain ⟨o1, o2, o3, o4, o5, o6⟩ := hok
  obtain ⟨q1, q2, q3, q4⟩ := o4 e (List.mem_of_getElem? hk)
  unfold k_X11_find
  refine ⟨g.1.1, g_two (R := fun r_1 r_2 S_2 => ((nI mo < nI 1 → False) ∧ (¬ nI mo < nI 1 → ((nI mo ≤ nI 20 → cA S_2 x 11 ∧ ((∃ b3 : Nat, cr S_2 365 x = some b3 ∧ (cA S_2 b3 1 ∧ (k_X1_search (fun r_4 S_4 => Q r_4 S_4) dp b3 r_1 r_2 (nI k) (nI mo) S_2))))) ∧ (¬ nI mo ≤ nI 20 → False))))) g gl hex hk (fun V q s hs es gV gq => ?_)⟩
  obtain ⟨rd, fd, hk', hr, cq, cs, ct, cm', st, sp, cmr, f1, f2, f3, f4, f5, f6, f7⟩ := gF
  obtain ⟨rd', wr, mo', fo, ro, pl, ra, gi, mk, fs, rw, r1, r2, rr, r3, r4⟩ := gR
  obtain rfl := Option.some.inj (f1.symm.trans r1)
  have hsM := hM.2.2.2.2 s hs
  have st' : rSt S ρ dp so sd sg made V s.2.1 s.2.2 rd w0 w1 wr mo' fo ro pl ra gi mk fs rw q e.1 e.2 := ⟨g.2.1, hsM, gV, r2, gq⟩
  have i8 : s.2.1.length < 8000 := (rSt_bd st').2.1
  have hall := o3 s hs
  refine pk_lt mo 1 (fun z => absurd z (by omega)) (fun _ => pk_le mo 20 (fun _ => ⟨g.1.1, fd, f2, f3.1, ?_⟩) (fun z => absurd z (by omega)))
  refine q_search f3 f7 (by omega) hk31 hmo st' q1 q2 q3 q4 ⟨o5, o6⟩ (by omega) o2 (fun n hn => o1 n (hsM n hn)) (fun n hn j hj => ?_) (fun T c fT rT ra1 ra2 hH h36 hc h37 hC => ?_)
  · show mbQ qs sg k n j = _
    unfold mbQ
    rw [hk]
    exact vl_some.symm
  · have nx : ρ x ∉ [80, 18, 21, 22, 23, 24, 25, 26, 27, 28, 29, 30, 31, 32, 33] := by rw [g.1.2.1]; decide
    have xr : ∀ z, cr T z x = cr S z x := fun z => fr_cr fT.1 g.1.1 nx
    refine h T s c hs es fT ⟨rd, wr, mo', fo, ro, pl, ra, gi, mk, fs, rw, (xr _).trans f1, rdr_s fT.1 (by decide) (by decide) r2, fun i => if i < (lfI e.2 e.1).length then rrL e.2 e.1 sg s.2.2 s.2.1 i else rr i, fun i => ?_, fun i hi => ?_⟩ ⟨rd, fd, hk', hr, cq, cs, ct, cm', st, sp, cmr, (xr _).trans f1, (xr _).trans f2, fdK_fk fT (by decide) rT f3, hH, h36, h37, hC⟩ hc
    · show (if i < _ then _ else _) ≤ 102
      split
      · exact rrL_le q1 (by omega) i
      · exact r3 i
    · show _ = nI (if i < _ then _ else _)
      by_cases c1 : i < (lfI e.2 e.1).length
      · rw [if_pos c1]; exact ra1 i c1
      · rw [if_neg c1, ra2 i (by omega)]; exact r4 i hi
theorem x_findS {Q : cS → Prop} {y z t : Int32} {mc ms : Nat} (g : gIx S ρ dp x so sd sg made B ix mg cm pr sn op fi w cc off) (hno : ∀ s, s ∈ sn → nI s.1 ≠ y) (hm : 1 ≤ mc) (hs : 6 ≤ ms) (h : Q S) : kx_X11_find "java/lang/IndexOutOfBoundsException" Q dp mc ms x y z t S := by
  unfold kx_X11_find
  exact ⟨g.1.1, Or.inr ⟨mc, ms, ⟨by omega, by omega⟩, x_snapOf g hno hm hs h⟩⟩
theorem x_findQ {Q : cS → Prop} {y z t : Int32} {mc ms : Nat} (g : gIx S ρ dp x so sd sg made B ix mg cm pr sn op fi w cc off) (gl : gQl S ρ dp x qs) (hex : ∃ s, s ∈ sn ∧ nI s.1 = y) (hk : ∀ k, k < qs.length → z ≠ nI k) (hm : 1 ≤ mc) (hs : 6 ≤ ms) (h : Q S) : kx_X11_find "java/lang/IndexOutOfBoundsException" Q dp mc ms x y z t S := by
  unfold kx_X11_find
  exact ⟨g.1.1, Or.inl ⟨⟨by omega, by omega⟩, g_snapOf g hex (fun l i V s _ _ _ _ _ _ => ⟨g.1.1, Or.inr ⟨mc, ms, ⟨by omega, by omega⟩, x_queryOf g.1.1 gl hk hm hs h⟩⟩)⟩⟩
theorem x_findA {Q : cS → Prop} {y t : Int32} {k mc ms : Nat} {e : Nat × (Nat → Nd)} (g : gIx S ρ dp x so sd sg made B ix mg cm pr sn op fi w cc off) (gl : gQl S ρ dp x qs) (hex : ∃ s, s ∈ sn ∧ nI s.1 = y) (hk : qs[k]? = some e) (ht : ∀ l, 1 ≤ l → l ≤ 20 → t ≠ nI l) (hm : 1 ≤ mc) (hs : 6 ≤ ms) (h : Q S) : kx_X11_find "java/lang/IllegalArgumentException" Q dp mc ms x y (nI k) t S := by
  have bd : (0 + 1 ≤ mc ∧ 0 + 6 ≤ ms) := ⟨by omega, by omega⟩
  unfold kx_X11_find
  refine ⟨g.1.1, Or.inl ⟨⟨by omega, by omega⟩, g_snapOf g hex (fun l i V s _ _ _ _ _ _ => ⟨g.1.1, Or.inl ⟨⟨by omega, by omega⟩, g_queryOf g.1.1 gl hk (fun q _ => ⟨fun _ => ⟨rfl, bd, h⟩, fun c => ⟨fun c2 => ?_, fun _ => ⟨rfl, bd, h⟩⟩⟩)⟩⟩)⟩⟩
  obtain ⟨l, l1, l31, rfl⟩ := i32_ge (by decide) c
  exact absurd rfl (ht l l1 ((nI_leI l31 (by decide)).mp c2))
theorem q_checkHit {Q : cS → Prop} {k : Nat} (hx : cA S x 11) (gF : gFn S ρ x H sk tk CL u mb sg) (hk : k < H.length) (h : Q S) : k_X11_checkHit Q dp x (nI k) S := by
  obtain ⟨rd, fd, hk', hr, cq, cs, ct, cm', st, sp, cmr, f1, f2, f3, f4, f5, f6, f7⟩ := gF
  have := f4.2.1
  unfold k_X11_checkHit
  refine w_pos k ⟨hx, fd, f2, f3.1, ?_⟩
  rw [f4.1]
  exact pk_lt k H.length (fun _ => h) (fun z => absurd z (by omega))
theorem x_checkHit {Q : cS → Prop} {y : Int32} {mc ms : Nat} (hx : cA S x 11) (gF : gFn S ρ x H sk tk CL u mb sg) (hk : ∀ k, k < H.length → y ≠ nI k) (hm : 1 ≤ mc) (hs : 6 ≤ ms) (h : Q S) : kx_X11_checkHit "java/lang/IndexOutOfBoundsException" Q dp mc ms x y S := by
  obtain ⟨rd, fd, hk', hr, cq, cs, ct, cm', st, sp, cmr, f1, f2, f3, f4, f5, f6, f7⟩ := gF
  have := f4.2.1
  have bd : (0 + 1 ≤ mc ∧ 0 + 6 ≤ ms) := ⟨by omega, by omega⟩
  unfold kx_X11_checkHit
  refine ⟨fun _ => ⟨rfl, bd, h⟩, fun c => ⟨hx, fd, f2, f3.1, ?_⟩⟩
  rw [f4.1]
  refine ⟨fun c2 => ?_, fun _ => ⟨rfl, bd, h⟩⟩
  obtain ⟨k, hk31, rfl⟩ := nI_of c
  exact absurd rfl (hk k ((nI_ltI hk31 (by omega)).mp c2))
theorem g_hitAt {Q : Int32 → cS → Prop} {k : Nat} {y : Nat × Nat} (hx : cA S x 11) (gF : gFn S ρ x H sk tk CL u mb sg) (hk : H[k]? = some y) (h : Q (nI y.1) S) : k_X11_hitAt Q dp x (nI k) S := by
  have hl := get_lt hk
  obtain ⟨rd, fd, hk', hr, cq, cs, ct, cm', st, sp, cmr, f1, f2, f3, f4, f5, f6, f7⟩ := id gF
  have := f4.2.1
  have a := f3.2.2.2.1
  unfold k_X11_hitAt
  refine ⟨hx, q_checkHit hx gF hl ⟨hx, fd, f2, f3.1, hk', a.1, cX_mk a.2.1 a.2.2.1 (by decide) (show k < 20 by omega) rfl, ?_⟩⟩
  rw [nI_clamp (by omega), (f4.2.2 k y hk).1.1]; exact h
theorem g_rankAt {Q : Int32 → cS → Prop} {k : Nat} {y : Nat × Nat} (hx : cA S x 11) (gF : gFn S ρ x H sk tk CL u mb sg) (hk : H[k]? = some y) (h : Q (nI y.2) S) : k_X11_rankAt Q dp x (nI k) S := by
  have hl := get_lt hk
  obtain ⟨rd, fd, hk', hr, cq, cs, ct, cm', st, sp, cmr, f1, f2, f3, f4, f5, f6, f7⟩ := id gF
  have := f4.2.1
  have a := f3.2.2.2.2.1
  unfold k_X11_rankAt
  refine ⟨hx, q_checkHit hx gF hl ⟨hx, fd, f2, f3.1, hr, a.1, cX_mk a.2.1 a.2.2.1 (by decide) (show k < 20 by omega) rfl, ?_⟩⟩
  rw [nI_clamp (by omega), (f4.2.2 k y hk).2.1]; exact h
theorem x_hitAt {Q : cS → Prop} {y : Int32} {mc ms : Nat} (hx : cA S x 11) (gF : gFn S ρ x H sk tk CL u mb sg) (hk : ∀ k, k < H.length → y ≠ nI k) (hm : 1 ≤ mc) (hs : 6 ≤ ms) (h : Q S) : kx_X11_hitAt "java/lang/IndexOutOfBoundsException" Q dp mc ms x y S := by
  unfold kx_X11_hitAt
  exact ⟨hx, Or.inr ⟨mc, ms, ⟨by omega, by omega⟩, x_checkHit hx gF hk hm hs h⟩⟩
theorem x_rankAt {Q : cS → Prop} {y : Int32} {mc ms : Nat} (hx : cA S x 11) (gF : gFn S ρ x H sk tk CL u mb sg) (hk : ∀ k, k < H.length → y ≠ nI k) (hm : 1 ≤ mc) (hs : 6 ≤ ms) (h : Q S) : kx_X11_rankAt "java/lang/IndexOutOfBoundsException" Q dp mc ms x y S := by
  unfold kx_X11_rankAt
  exact ⟨hx, Or.inr ⟨mc, ms, ⟨by omega, by omega⟩, x_checkHit hx gF hk hm hs h⟩⟩
theorem g_skipped {Q : Int32 → cS → Prop} (hx : cA S x 11) (gF : gFn S ρ x H sk tk CL u mb sg) (h : Q (nI sk) S) : k_X11_skipped Q dp x S := by
  obtain ⟨rd, fd, hk', hr, cq, cs, ct, cm', st, sp, cmr, f1, f2, f3, f4, f5, f6, f7⟩ := gF
  unfold k_X11_skipped
  refine ⟨hx, fd, f2, f3.1, ?_⟩
  rw [f5]; exact h
theorem g_cached {Q : Int32 → cS → Prop} (hx : cA S x 11) (gF : gFn S ρ x H sk tk CL u mb sg) (h : Q (nI tk) S) : k_X11_cached Q dp x S := by
  obtain ⟨rd, fd, hk', hr, cq, cs, ct, cm', st, sp, cmr, f1, f2, f3, f4, f5, f6, f7⟩ := gF
  unfold k_X11_cached
  refine ⟨hx, fd, f2, f3.1, ?_⟩
  rw [f6]; exact h
end FN
