/-! both worlds together: wipe, stop, synonym, text, columns -/
theorem inB_ex {x : Int32} {lo hi : Nat} (hlo : lo < 2 ^ 31) (hhi : hi < 2 ^ 31) : inB x (nI lo) (nI hi) = true ↔ ∃ a, lo ≤ a ∧ a ≤ hi ∧ x = nI a := by
  constructor
  · intro e
    unfold inB at e
    rw [Bool.and_eq_true, decide_eq_true_iff, decide_eq_true_iff] at e
    have l1 := Int32.le_iff_toInt_le.mp e.1
    rw [nI_toInt hlo] at l1
    have nn : ¬ x < 0 := fun c => by
      have := Int32.lt_iff_toInt_lt.mp c
      rw [show (0 : Int32).toInt = 0 from rfl] at this
      omega
    obtain ⟨a, ha, hx⟩ := nI_of nn
    rw [hx] at e
    exact ⟨a, (nI_leI hlo ha).mp e.1, (nI_leI ha hhi).mp e.2, hx⟩
  · rintro ⟨a, h1, h2, rfl⟩
    rw [inB_N (by omega) hlo hhi]
    simp [inN]; omega
theorem p_textX {v : Nat → Int32} {f : Nat → Nat → Int32} {g : Nat → Nat → Int64} {Q : QI} {x : Int32} (hx : ∀ k, k < 2 → x ≠ nI k) (h : Q (nI 0) (upd v 99 (nI 1)) f g) : r_text Q x v f g := by
  unfold r_text
  refine p_in2 (lo := 0) (hi := 1) (by decide) (by decide) (fun _ => ?_) (fun a _ h2 e => absurd e (hx a (by omega)))
  exact p_goes (b1 := false) (b2 := true) (b3 := true) ⟨fun w => absurd rfl w, fun _ => h⟩
section CASC
variable {S T : cS} {ρ ρ' : Nat → Nat} {M Am Fm Gm : List Nat} {v v' : Nat → Int32} {f f' : Nat → Nat → Int32} {g g' : Nat → Nat → Int64} {dp x out k cd dd L : Nat} {x4 : Int32} {xs : Nat → Int32} {R : Int32 → Nat → Nat → cS → (Nat → Int32) → (Nat → Nat → Int32) → (Nat → Nat → Int64) → Prop}
variable {n : Nat} {P : Nat → Nat} {ks : Nat} {A : Nat → Int64} {yn : Nat} {F G : Nat → Int64} {ad : Bool} {c0 c1 n0 : Nat} {P0 : Nat → Nat} {n1 : Nat} {P1 : Nat → Nat}
theorem cls_out {C : Prop} {Q : cS → Prop} {y : Int64} (hC : C) (o : cA T out 15 ∧ cn T out = 1 ∧ ρ' out = 90) (h : ∀ S8, fr T S8 ρ' ρ' [90] → (cA S8 out 15 ∧ cn S8 out = 1 ∧ ρ' out = 90) → cJ S8 out (nI 0).toNatClampNeg = y → Q S8) : cX T out 15 (nI 0) ∧ ∀ S8 : cS, S8 = cSJ T out (nI 0).toNatClampNeg y → C ∧ Q S8 := by
  refine ⟨out_X o, ?_⟩
  intro S8 e8
  obtain ⟨f90, o2, j2⟩ := out_SJ (y := y) o
  have e8' : S8 = cSJ T out 0 y := e8
  rw [← e8'] at f90 o2 j2
  exact ⟨hC, h S8 f90 o2 j2⟩
theorem gLD_90 (h : fr S T ρ ρ [90]) {c0 c1 : Int32} (g : gLD S ρ x n P ks A yn F G ad c0 c1 n0 P0 n1 P1) : gLD T ρ x n P ks A yn F G ad c0 c1 n0 P0 n1 P1 := gLD_f h (by decide) g.2.1 (fun q _ => fr_cr h g.1 (by rw [g.2.1]; decide)) g
/-- the language changes -/
theorem rL_new {n' : Nat} {P' : Nat → Nat} {ks' : Nat} {A' : Nat → Int64} {yn' : Nat} {F' G' : Nat → Int64} (h : rF Am Fm Gm v f g v' f' g') (h1 : dj [10, 13, 14] Am) (h2 : dj [8] Fm) (h3 : dj [1, 7] Gm) (hp : v' 2 = nI n' ∧ n' ≤ 40 ∧ ∀ j, j < n' → f' 2 j = nI (P' j) ∧ P' j < 65536) (hs : v' 6 = nI ks' ∧ ks' ≤ 10 ∧ g' 4 = A') (hy : v' 9 = nI yn' ∧ yn' ≤ 10 ∧ g' 5 = F' ∧ g' 6 = G') (hr : rL v f g n P ks A yn F G ad c0 c1 n0 P0 n1 P1) : rL v' f' g' n' P' ks' A' yn' F' G' ad c0 c1 n0 P0 n1 P1 := by
  obtain ⟨a1, a2, a3, a4, a5, a6, a7, a8, a9⟩ := hr
  unfold rL rD1
  rw [h.1 10 (dj_n h1 (by decide)), h.1 13 (dj_n h1 (by decide)), h.1 14 (dj_n h1 (by decide)), h.2.1 8 (dj_n h2 (by decide)), h.2.2 7 (dj_n h3 (by decide))]
  exact ⟨mPow_fr (h.2.2 1 (dj_n h3 (by decide))) a1, hp, hs, hy, a5, a6, a7, a8, a9⟩
theorem tail_ok {cd dd : Nat} (hN : nxR R k dp x out x4) (h : Rel (k + 1) S dp x out v f g cd dd) : lw_tail R x4 cd dd S v f g := by
  intro y e
  rw [e]; exact hN _ _ _ _ _ _ h
theorem lc_1 (hI : Rel k S dp x out v f g cd dd) (hk : k < 512) (hN : nxR R k dp x out x4) : lw_c1 R xs L dp x out x4 cd dd S v f g := by
  obtain ⟨ρ, WL, n, P, ks, A, yn, F, G, ad, c0, c1, n0, P0, n1, P1, hl, hr⟩ := id hI
  obtain ⟨l1, l2, l3, l4, l5, l6⟩ := id hl
  obtain ⟨m1, ⟨m2, m3, m4⟩, -⟩ := id l2
  obtain ⟨v', hv'⟩ : ∃ v', v' = upd (upd v 99 (nI 0)) 2 (nI 0) := ⟨_, rfl⟩
  have hF : rF [99, 2] [] [] v f g v' f g := ⟨fun i hi => by rw [hv', upd_n (fun e => hi (by rw [e]; decide)), upd_n (fun e => hi (by rw [e]; decide))], fun _ _ => rfl, fun _ _ => rfl⟩
  have key : ∀ T ρ', fr S T ρ ρ' [2, 3] → gLD T ρ' x 0 P ks A yn F G ad (nI c0) (nI c1) n0 P0 n1 P1 → Rel (k + 1) T dp x out v' f g (cd + 4) (dd + 45) := fun T ρ' fT gT => Rel_L fT (by decide) (out_fr fT (by decide) hr.1) hF (by decide) (by decide) (by decide) (fun _ z => z) (by decide) (by decide) hr ⟨gT, rL_pad hF (by decide) (by decide) (by decide) ⟨by rw [hv', upd_at], by omega, fun j hj => absurd hj (Nat.not_lt_zero j)⟩ l2, by omega, l4, l5, l6⟩
  have bd : cd + 4 ≤ 601024 ∧ dd + 45 ≤ 7293033 := by
    have hr2 := hr
    obtain ⟨-, so, sd, sg, made, B, ix, mg, cm, pr, sn, op, fi, w, cc, off, dn, hd, sl, m, nd, qs, w0, w1, H, sk, tk, CL, u, R, -, -, -, -, -, -, -, -, -, b7, b8⟩ := hr2
    omega
  unfold lw_c1
  refine ⟨l1.1, 4, 45, bd, g_wipe (P' := P) l1 (Nat.le_refl _) (Nat.le_refl _) (fun T ρ' fT gT => ⟨bd, ?_⟩)⟩
  refine p_wipe ?_
  rw [← hv']
  exact ⟨m2.symm, tail_ok hN (key T ρ' fT gT)⟩
theorem lc_2 (hI : Rel k S dp x out v f g cd dd) (hk : k < 512) (hN : nxR R k dp x out x4) : lw_c2 R xs L dp x out x4 cd dd S v f g := by
  obtain ⟨ρ, WL, n, P, ks, A, yn, F, G, ad, c0, c1, n0, P0, n1, P1, hl, hr⟩ := id hI
  obtain ⟨l1, l2, l3, l4, l5, l6⟩ := id hl
  obtain ⟨m1, ⟨m2, m3, m4⟩, ⟨m5, m6, m7⟩, ⟨m8, m9, m10, m11⟩, m12, -⟩ := id l2
  have bd : cd + 45 ≤ 601024 ∧ dd + 45 ≤ 7293033 := by
    have hr2 := hr
    obtain ⟨-, so, sd, sg, made, B, ix, mg, cm, pr, sn, op, fi, w, cc, off, dn, hd, sl, m, nd, qs, w0, w1, H, sk, tk, CL, u, R, -, -, -, -, -, -, -, -, -, b7, b8⟩ := hr2
    omega
  unfold lw_c2
  refine ⟨45, 45, bd, ?_⟩
  unfold kw_L_stop
  by_cases cc : wdC P n = 1 ∧ ks < 10 ∧ ad = false
  · obtain ⟨q1, q2, q3⟩ := id cc
    subst q3
    refine ⟨l1.1, Or.inl ⟨4, 45, by omega, by omega, g_stop (P' := P) l1 q1 q2 rfl (Nat.le_refl _) (Nat.le_refl _) (fun T ρ' fT gT => cls_out (by omega) (out_fr fT (by decide) hr.1) (fun S8 f90 o8 j8 => ⟨bd, ?_⟩))⟩⟩
    have fS : fr S S8 ρ ρ' [2, 3, 90] := fr_mix (fr_up fT (by decide)) (fr_up f90 (by decide))
    have hS' : ∀ ks' A', scW (lgT ks' A' yn F G) := fun _ _ i hi => l6 i hi
    refine p_stop m1 m3 m2 m4 m6 m5 m12 (fun r w => absurd ⟨q1, q2, rfl⟩ w) (fun r _ _ _ hb => ?_) (fun r _ _ _ hb => ?_)
    · rw [m7] at hb
      rw [if_pos hb, if_pos hb] at gT
      rw [if_pos hb] at j8
      obtain ⟨v', hv'⟩ : ∃ v', v' = upd (upd (upd v 4 (nI 1)) 99 (nI 0)) 2 (nI 0) := ⟨_, rfl⟩
      obtain ⟨g', hg'⟩ : ∃ g', g' = sR g 3 r := ⟨_, rfl⟩
      have hF : rF [4, 99, 2] [] [3] v f g v' f g' := ⟨fun i hi => by rw [hv', upd_n (fun e => hi (by rw [e]; decide)), upd_n (fun e => hi (by rw [e]; decide)), upd_n (fun e => hi (by rw [e]; decide))], fun _ _ => rfl, fun m hm => by rw [hg', sR_n (fun e => hm (by rw [e]; decide))]⟩
      rw [← hv', ← hg']
      have hrel : Rel (k + 1) S8 dp x out v' f g' (cd + 45) (dd + 45) := Rel_L fS (by decide) o8 hF (by decide) (by decide) (by decide) (fun _ z => z) (by decide) (by decide) hr ⟨gLD_90 f90 gT, rL_pad hF (by decide) (by decide) (by decide) ⟨by rw [hv', upd_at], by omega, fun j hj => absurd hj (Nat.not_lt_zero j)⟩ l2, by omega, l4, l5, l6⟩
      exact tl_ok bd (by rw [hv', upd_n (by decide), upd_at]) (out_X o8) j8 (hN _ _ _ _ _ _ hrel)
    · rw [m7] at hb ⊢
      rw [hb, if_neg (by decide), if_neg (by decide)] at gT
      rw [hb, if_neg (by decide)] at j8
      obtain ⟨v', hv'⟩ : ∃ v', v' = upd (upd (upd (upd v 4 (nI 1)) 99 (nI 0)) 6 (nI (ks + 1))) 2 (nI 0) := ⟨_, rfl⟩
      obtain ⟨g', hg'⟩ : ∃ g', g' = sR (sR g 3 r) 4 (upR A ks (lN (stW (wdW P n 0)))) := ⟨_, rfl⟩
      have hF : rF [4, 99, 6, 2] [] [3, 4] v f g v' f g' := ⟨fun i hi => by rw [hv', upd_n (fun e => hi (by rw [e]; decide)), upd_n (fun e => hi (by rw [e]; decide)), upd_n (fun e => hi (by rw [e]; decide)), upd_n (fun e => hi (by rw [e]; decide))], fun _ _ => rfl, fun m hm => by rw [hg', sR_n (fun e => hm (by rw [e]; decide)), sR_n (fun e => hm (by rw [e]; decide))]⟩
      rw [← hv', ← hg']
      have hrel : Rel (k + 1) S8 dp x out v' f g' (cd + 45) (dd + 45) := Rel_L fS (by decide) o8 hF (by decide) (by decide) (by decide) (fun _ z => z) (by decide) (by decide) (Rest_lang (hS' _ _) hr) ⟨gLD_90 f90 gT, rL_new hF (by decide) (by decide) (by decide) ⟨by rw [hv', upd_at], by omega, fun j hj => absurd hj (Nat.not_lt_zero j)⟩ ⟨by rw [hv', upd_n (by decide), upd_at], by omega, by rw [hg', sR_s]⟩ ⟨by rw [hF.1 9 (by decide)]; exact m8, m9, by rw [hF.2.2 5 (by decide)]; exact m10, by rw [hF.2.2 6 (by decide)]; exact m11⟩ l2, by omega, l4, l5, l6⟩
      exact tl_ok bd (by rw [hv', upd_n (by decide), upd_n (by decide), upd_at]) (out_X o8) j8 (hN _ _ _ _ _ _ hrel)
  · refine ⟨l1.1, Or.inr ⟨45, 45, by omega, x_stop l1 cc (by omega) (by omega) (fun T fT gT => ⟨by omega, bd, ?_⟩)⟩⟩
    refine p_stop m1 m3 m2 m4 m6 m5 m12 (fun r _ => ?_) (fun r w1 w2 w3 => absurd ⟨w1, w2, w3⟩ cc) (fun r w1 w2 w3 => absurd ⟨w1, w2, w3⟩ cc)
    obtain ⟨v', hv'⟩ : ∃ v', v' = upd (upd v 4 (nI (wdC P n))) 99 (nI 1) := ⟨_, rfl⟩
    obtain ⟨g', hg'⟩ : ∃ g', g' = sR g 3 r := ⟨_, rfl⟩
    have hF : rF [4, 99] [] [3] v f g v' f g' := ⟨fun i hi => by rw [hv', upd_n (fun e => hi (by rw [e]; decide)), upd_n (fun e => hi (by rw [e]; decide))], fun _ _ => rfl, fun m hm => by rw [hg', sR_n (fun e => hm (by rw [e]; decide))]⟩
    rw [← hv', ← hg']
    have hrel : Rel (k + 1) T dp x out v' f g' (cd + 45) (dd + 45) := Rel_L fT (by decide) (out_fr fT (by decide) hr.1) hF (by decide) (by decide) (by decide) (fun _ z => z) (by decide) (by decide) hr ⟨gT, rL_fr hF (by decide) (by decide) (by decide) l2, by omega, l4, l5, l6⟩
    exact tl_x (by decide) bd (by rw [hv', upd_at]) (hN _ _ _ _ _ _ hrel)
end CASC
