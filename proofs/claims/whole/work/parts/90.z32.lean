/-! both worlds together: type, wipe, stop, synonym, text, columns -/
def Rel (k : Nat) (S : cS) (dp x out : Nat) (v : Nat → Int32) (f : Nat → Nat → Int32) (g : Nat → Nat → Int64) (cd dd : Nat) : Prop := ∃ (ρ : Nat → Nat) (WL : List Int64) (n : Nat) (P : Nat → Nat) (ks : Nat) (A : Nat → Int64) (yn : Nat) (F G : Nat → Int64) (ad : Bool) (c0 c1 n0 : Nat) (P0 : Nat → Nat) (n1 : Nat) (P1 : Nat → Nat), Lp k WL S ρ x v f g n P ks A yn F G ad c0 c1 n0 P0 n1 P1 ∧ Rest (lgT ks A yn F G) ad k WL S ρ dp x out v f g cd dd
section CASA
variable {S T : cS} {ρ ρ' : Nat → Nat} {M Am Fm Gm : List Nat} {v v' : Nat → Int32} {f f' : Nat → Nat → Int32} {g g' : Nat → Nat → Int64} {dp x out k cd dd : Nat}
theorem Rel_bd (hk : k ≤ 512) (h : Rel k S dp x out v f g cd dd) : cd ≤ 601024 ∧ dd ≤ 7293033 := by
  obtain ⟨ρ, WL, n, P, ks, A, yn, F, G, ad, c0, c1, n0, P0, n1, P1, -, o, so, sd, sg, made, B, ix, mg, cm, pr, sn, op, fi, w, cc, off, dn, hd, sl, m, nd, qs, w0, w1, H, sk, tk, CL, u, R, -, -, -, -, -, -, -, -, -, b7, b8⟩ := h
  omega
theorem out_X (o : cA S out 15 ∧ cn S out = 1 ∧ ρ out = 90) : cX S out 15 (nI 0) := cX_mk o.1 o.2.1 (by decide) (by decide) rfl
theorem out_fr (h : fr S T ρ ρ' M) (hM : dj [90] M) (o : cA S out 15 ∧ cn S out = 1 ∧ ρ out = 90) : cA T out 15 ∧ cn T out = 1 ∧ ρ' out = 90 := ⟨fr_A h o.1, (sub_cn h.1 o.1).trans o.2.1, (h.2 out o.1.1 (by rw [o.2.2]; exact dj_n hM (by decide))).trans o.2.2⟩
theorem out_SJ {y : Int64} (o : cA S out 15 ∧ cn S out = 1 ∧ ρ out = 90) : fr S (cSJ S out 0 y) ρ ρ [90] ∧ (cA (cSJ S out 0 y) out 15 ∧ cn (cSJ S out 0 y) out = 1 ∧ ρ out = 90) ∧ cJ (cSJ S out 0 y) out 0 = y := by
  have s : cSub S (cSJ S out 0 y) (fun a => ρ a ∈ [90]) := sub_SJ (by show ρ out ∈ [90]; rw [o.2.2]; decide)
  refine ⟨⟨s, fun _ _ _ => rfl⟩, ⟨sub_A1 s o.1, (sub_cn s o.1).trans o.2.1, o.2.2⟩, ?_⟩
  rw [cSJ_n]
  show mU _ _ _ _ _ _ = _ <;> skip
  exact (by
    show (sR (cJ S) out (upR (cJ S out) 0 y)) out 0 = y
    rw [sR_s, upR_s])
theorem vp6 {L : Nat} {x4 : Int32} (hx4 : x4 = nI (6 * k)) (hL : 6 * k + 6 ≤ L) (hL2 : L ≤ 3072) {j : Nat} (hj : j < 6) : vp_in (x4 + nI j) L := by
  rw [hx4, nI_add]
  exact pk_in (6 * k + j) L (by omega)
theorem chr_N (z : Int32) : ∃ c, c < 65536 ∧ (z.toUInt32 % 65536).toInt32 = nI c := by
  refine ⟨(z.toUInt32 % 65536).toNat, ?_, ?_⟩
  · rw [UInt32.toNat_mod]; exact Nat.mod_lt _ (by decide)
  · apply Int32.toBitVec_inj.1
    show (z.toUInt32 % 65536).toBitVec = BitVec.ofNat 32 (z.toUInt32 % 65536).toBitVec.toNat
    rw [BitVec.ofNat_toNat, BitVec.setWidth_eq]
variable {n : Nat} {P : Nat → Nat} {ks : Nat} {A : Nat → Int64} {yn : Nat} {F G : Nat → Int64} {ad : Bool} {c0 c1 n0 : Nat} {P0 : Nat → Nat} {n1 : Nat} {P1 : Nat → Nat}
/-- the pad is read anew -/
theorem rL_pad {n' : Nat} {P' : Nat → Nat} (h : rF Am Fm Gm v f g v' f' g') (h1 : dj [6, 9, 10, 13, 14] Am) (h2 : dj [8] Fm) (h3 : dj [1, 4, 5, 6, 7] Gm) (hp : v' 2 = nI n' ∧ n' ≤ 40 ∧ ∀ j, j < n' → f' 2 j = nI (P' j) ∧ P' j < 65536) (hr : rL v f g n P ks A yn F G ad c0 c1 n0 P0 n1 P1) : rL v' f' g' n' P' ks A yn F G ad c0 c1 n0 P0 n1 P1 := by
  obtain ⟨a1, a2, a3, a4, a5, a6, a7, a8, a9⟩ := hr
  unfold rL rD1
  rw [h.1 6 (dj_n h1 (by decide)), h.1 9 (dj_n h1 (by decide)), h.1 10 (dj_n h1 (by decide)), h.1 13 (dj_n h1 (by decide)), h.1 14 (dj_n h1 (by decide)), h.2.1 8 (dj_n h2 (by decide)), h.2.2 4 (dj_n h3 (by decide)), h.2.2 5 (dj_n h3 (by decide)), h.2.2 6 (dj_n h3 (by decide)), h.2.2 7 (dj_n h3 (by decide))]
  exact ⟨mPow_fr (h.2.2 1 (dj_n h3 (by decide))) a1, hp, a3, a4, a5, a6, a7, a8, a9⟩
/-- what a call on the language leaves -/
theorem Rel_L {WL WL' : List Int64} {mc ms : Nat} (hc : fr S T ρ ρ' M) (hM : dj lRm M) (ho : cA T out 15 ∧ cn T out = 1 ∧ ρ' out = 90) (h : rF Am Fm Gm v f g v' f' g') (h1 : dj lRv Am) (h2 : dj lRf Fm) (h3 : dj [12, 17, 45] Gm) (hW : ∀ c, c ∈ WL → c ∈ WL') (hm : mc ≤ 1170) (hs : ms ≤ 13440) (hr : Rest (lgT ks A yn F G) ad k WL S ρ dp x out v f g cd dd) (hl : Lp (k + 1) WL' T ρ' x v' f' g' n P ks A yn F G ad c0 c1 n0 P0 n1 P1) : Rel (k + 1) T dp x out v' f' g' (cd + mc) (dd + ms) := ⟨ρ', WL', n, P, ks, A, yn, F, G, ad, c0, c1, n0, P0, n1, P1, hl, Rest_fr hc hM h h1 h2 h3 hW ho hm hs hr⟩
end CASA
section CASB
variable {S : cS} {v : Nat → Int32} {f : Nat → Nat → Int32} {g : Nat → Nat → Int64} {dp x out k cd dd L : Nat} {x4 : Int32} {xs : Nat → Int32} {R : Int32 → Nat → Nat → cS → (Nat → Int32) → (Nat → Nat → Int32) → (Nat → Nat → Int64) → Prop}
/-- what comes behind a call -/
def nxR (R : Int32 → Nat → Nat → cS → (Nat → Int32) → (Nat → Nat → Int32) → (Nat → Nat → Int64) → Prop) (k dp x out : Nat) (x4 : Int32) : Prop := ∀ (cd dd : Nat) (S : cS) (v : Nat → Int32) (f : Nat → Nat → Int32) (g : Nat → Nat → Int64), Rel (k + 1) S dp x out v f g cd dd → R (x4 + nI 6) cd dd S v f g
theorem rF_99u {t : Int32} : rF [99] [] [] v f g (upd v 99 t) f g := ⟨fun i hi => upd_n (fun e => hi (by rw [e]; decide)), fun _ _ => rfl, fun _ _ => rfl⟩
/-- a call that only throws leaves all as it was -/
theorem Rel_x {t : Int32} {mc ms : Nat} (hm : mc ≤ 1170) (hs : ms ≤ 13440) (h : Rel k S dp x out v f g cd dd) : Rel (k + 1) S dp x out (upd v 99 t) f g (cd + mc) (dd + ms) := by
  obtain ⟨ρ, WL, n, P, ks, A, yn, F, G, ad, c0, c1, n0, P0, n1, P1, hl, hr⟩ := h
  have hx : ρ x = 1 := hl.1.2.1
  exact Rel_L (M := []) fr_rf (by decide) hr.1 rF_99u (by decide) (by decide) (by decide) (fun _ z => z) hm hs hr (Lp_fr (M := []) fr_rf (by decide) hx (fun _ _ => rfl) rF_99u (by decide) (by decide) (by decide) hl)
theorem lc_0 (hI : Rel k S dp x out v f g cd dd) (hk : k < 512) (hx4 : x4 = nI (6 * k)) (hL : 6 * k + 6 ≤ L) (hL2 : L ≤ 3072) (hN : nxR R k dp x out x4) : lw_c0 R xs L dp x out x4 cd dd S v f g := by
  have vp1 := vp6 hx4 hL hL2 (show 1 < 6 by decide)
  unfold lw_c0
  obtain ⟨c, c16, ec⟩ := chr_N (xs (x4 + nI 1).toNatClampNeg)
  rw [ec]
  refine ⟨vp1, ?_⟩
  have thr : ∀ e : Nat, e = 1 ∨ e = 2 → Rel (k + 1) S dp x out (upd v 99 (nI e)) f g (cd + 1) (dd + 6) := fun e _ => Rel_x (by decide) (by decide) hI
  obtain ⟨ρ, WL, n, P, ks, A, yn, F, G, ad, c0, c1, n0, P0, n1, P1, hl, hr⟩ := id hI
  obtain ⟨l1, l2, l3, l4, l5, l6⟩ := id hl
  obtain ⟨m1, ⟨m2, m3, m4⟩, -⟩ := id l2
  cases hin : inN c 32 126 with
  | false =>
    refine ⟨1, 6, Rel_bd (by omega) (thr 1 (Or.inl rfl)), ?_⟩
    unfold kw_L_type
    refine ⟨l1.1, Or.inr (Or.inl ⟨1, 6, by omega, x_type1 (by omega) (fun w => ?_) (Nat.le_refl _) (Nat.le_refl _) ⟨by omega, ⟨vp1, Rel_bd (by omega) (thr 1 (Or.inl rfl)), ?_⟩⟩⟩)⟩
    · simp [inN] at hin; omega
    · refine p_type c16 m3 m2 (fun w => ?_) (fun _ => ?_) (fun w => ?_)
      · rw [hin] at w; exact absurd w (by decide)
      · exact tl_x (by decide) (Rel_bd (by omega) (thr 1 (Or.inl rfl))) upd_at (hN _ _ _ _ _ _ (thr 1 (Or.inl rfl)))
      · rw [hin] at w; exact absurd w (by decide)
  | true =>
    have hc2 : 32 ≤ c ∧ c ≤ 126 := by simpa [inN] using hin
    by_cases h40 : n = 40
    · refine ⟨1, 6, Rel_bd (by omega) (thr 2 (Or.inr rfl)), ?_⟩
      unfold kw_L_type
      obtain ⟨-, -, Lo, D, p, e1, e2, gl, ep, gp, gd⟩ := id l1
      refine ⟨l1.1, Or.inr (Or.inr ⟨1, 6, by omega, x_type2 l1.1 e1 gl.1.1 ep (h40 ▸ gp.1) hc2 (Nat.le_refl _) (Nat.le_refl _) ⟨by omega, ⟨vp1, Rel_bd (by omega) (thr 2 (Or.inr rfl)), ?_⟩⟩⟩)⟩
      refine p_type c16 m3 m2 (fun _ w => by omega) (fun w => ?_) (fun _ _ => ?_)
      · rw [hin] at w; exact absurd w (by decide)
      · exact tl_x (by decide) (Rel_bd (by omega) (thr 2 (Or.inr rfl))) upd_at (hN _ _ _ _ _ _ (thr 2 (Or.inr rfl)))
    · refine ⟨0, 0, ?_, ?_⟩
      · have := Rel_bd (by omega) hI
        omega
      unfold kw_L_type
      refine ⟨l1.1, Or.inl ⟨by omega, g_type l1 hc2 (by omega) (fun T fT gT => ?_)⟩⟩
      have o1 := out_fr fT (by decide) hr.1
      refine ⟨out_X o1, ?_⟩
      intro S10 e10
      obtain ⟨f90, o2, j2⟩ := out_SJ (y := (nI (n + 1)).toInt64) o1
      have e10' : S10 = cSJ T out 0 (nI (n + 1)).toInt64 := e10
      rw [← e10'] at f90 o2 j2
      obtain ⟨v', hv'⟩ : ∃ v', v' = upd (upd v 99 (nI 0)) 2 (nI (n + 1)) := ⟨_, rfl⟩
      obtain ⟨f', hf'⟩ : ∃ f', f' = sR f 2 (upR (f 2) n (nI c)) := ⟨_, rfl⟩
      have hF : rF [99, 2] [2] [] v f g v' f' g := ⟨fun i hi => by rw [hv', upd_n (fun e => hi (by rw [e]; decide)), upd_n (fun e => hi (by rw [e]; decide))], fun m hm => by rw [hf', sR_n (fun e => hm (by rw [e]; decide))], fun _ _ => rfl⟩
      have hrel : Rel (k + 1) S10 dp x out v' f' g (cd + 0) (dd + 0) := by
        have fS : fr S S10 ρ ρ [3, 90] := fr_mix (fr_up fT (by decide)) (fr_up f90 (by decide))
        refine Rel_L fS (by decide) o2 hF (by decide) (by decide) (by decide) (fun _ z => z) (by decide) (by decide) hr ⟨gLD_f f90 (by decide) gT.2.1 (fun q _ => fr_cr f90 gT.1 (by rw [gT.2.1]; decide)) gT, rL_pad hF (by decide) (by decide) (by decide) ⟨by rw [hv', upd_at], by omega, fun j hj => ?_⟩ l2, by omega, l4, l5, l6⟩
        rw [hf', sR_s]
        by_cases cj : j = n
        · rw [cj, upR_s, upR_s]; exact ⟨rfl, by omega⟩
        · rw [upR_n cj, upR_n cj]; exact m4 j (by omega)
      refine ⟨by omega, vp1, Rel_bd (by omega) hrel, ?_⟩
      refine p_type c16 m3 m2 (fun _ _ => ?_) (fun w => ?_) (fun _ w => by omega)
      · rw [← hv', ← hf']
        exact tl_ok (Rel_bd (by omega) hrel) (by rw [hv', upd_n (by decide), upd_at]) (out_X o2) j2 (hN _ _ _ _ _ _ hrel)
      · rw [hin] at w; exact absurd w (by decide)
end CASB
