/-! both worlds together: type, wipe, stop, synonym, text, columns -/
def Rel (k : Nat) (S : cS) (dp x out : Nat) (v : Nat → Int32) (f : Nat → Nat → Int32) (g : Nat → Nat → Int64) (cd dd : Nat) : Prop := ∃ (ρ : Nat → Nat) (WL : List Int64) (n : Nat) (P : Nat → Nat) (ks : Nat) (A : Nat → Int64) (yn : Nat) (F G : Nat → Int64) (ad : Bool) (c0 c1 n0 : Nat) (P0 : Nat → Nat) (n1 : Nat) (P1 : Nat → Nat), Lp k WL S ρ x v f g n P ks A yn F G ad c0 c1 n0 P0 n1 P1 ∧ Rest (lgT ks A yn F G) ad k WL S ρ dp x out v f g cd dd
section CASA
variable {S T : cS} {ρ ρ' : Nat → Nat} {M Am Fm Gm : List Nat} {v v' : Nat → Int32} {f f' : Nat → Nat → Int32} {g g' : Nat → Nat → Int64} {dp x out k cd dd : Nat}
theorem Rel_bd (hk : k ≤ 512) (h : Rel k S dp x out v f g cd dd) : cd ≤ 601024 ∧ dd ≤ 7293033 := by
  obtain ⟨ρ, WL, n, P, ks, A, yn, F, G, ad, c0, c1, n0, P0, n1, P1, -, o, so, sd, sg, made, B, ix, mg, cm, pr, sn, op, fi, w, cc, off, dn, hd, sl, m, nd, qs, w0, w1, H, sk, tk, CL, u, R, -, -, -, -, -, -, -, -, -, b7, b8⟩ := h
  omega
theorem out_X (o : cA S out 15 ∧ cn S out = 1 ∧ ρ out = 90) : cX S out 15 (nI 0) := cX_mk o.1 o.2.1 (by decide) (by decide) rfl
theorem out_fr (h : fr S T ρ ρ' M) (hM : dj [90] M) (o : cA S out 15 ∧ cn S out = 1 ∧ ρ out = 90) : cA T out 15 ∧ cn T out = 1 ∧ ρ' out = 90 := ⟨fr_A h o.1, (sub_cn h.1 o.1).trans o.2.1, (h.2 out o.1.1 (by rw [o.2.2]; exact dj_n hM (by decide))).trans o.2.2⟩
theorem out_SJ {y : Int64} (o : cA S out 15 ∧ cn S out = 1 ∧ ρ out = 90) : fr S (cSJ S out 0 y) ρ ρ [90] ∧ (cA (cSJ S out 0 y) out 15 ∧ cn (cSJ S out 0 y) out = 1 ∧ ρ out = 90) ∧ cJ (cSJ S out 0 y) out 0 = y := by
  have s : cSub S (cSJ S out 0 y) (fun a => ρ a ∈ [90]) := sub_SJ (by show ρ out ∈ [90]; rw [o.2.2]; decide)
  refine ⟨⟨s, fun _ _ _ => rfl⟩, ⟨sub_A1 s o.1, (sub_cn s o.1).trans o.2.1, o.2.2⟩, ?_⟩
  rw [cSJ_n]
  show mU _ _ _ _ _ _ = _ <;> skip
  exact (by
    show (sR (cJ S) out (upR (cJ S out) 0 y)) out 0 = y
    rw [sR_s, upR_s])
theorem vp6 {L : Nat} {x4 : Int32} (hx4 : x4 = nI (6 * k)) (hL : 6 * k + 6 ≤ L) (hL2 : L ≤ 3072) {j : Nat} (hj : j < 6) : vp_in (x4 + nI j) L := by
  rw [hx4, nI_add]
  exact pk_in (6 * k + j) L (by omega)
theorem chr_N (z : Int32) : ∃ c, c < 65536 ∧ (z.toUInt32 % 65536).toInt32 = nI c := by
  refine ⟨(z.toUInt32 % 65536).toNat, ?_, ?_⟩
  · rw [UInt32.toNat_mod]; exact Nat.mod_lt _ (by decide)
  · apply Int32.toBitVec_inj.1
    show (z.toUInt32 % 65536).toBitVec = BitVec.ofNat 32 (z.toUInt32 % 65536).toBitVec.toNat
    rw [BitVec.ofNat_toNat, BitVec.setWidth_eq]
variable {n : Nat} {P : Nat → Nat} {ks : Nat} {A : Nat → Int64} {yn : Nat} {F G : Nat → Int64} {ad : Bool} {c0 c1 n0 : Nat} {P0 : Nat → Nat} {n1 : Nat} {P1 : Nat → Nat}
/-- the pad is read anew -/
theorem rL_pad {n' : Nat} {P' : Nat → Nat} (h : rF Am Fm Gm v f g v' f' g') (h1 : dj [6, 9, 10, 13, 14] Am) (h2 : dj [8] Fm) (h3 : dj [1, 4, 5, 6, 7] Gm) (hp : v' 2 = nI n' ∧ n' ≤ 40 ∧ ∀ j, j < n' → f' 2 j = nI (P' j) ∧ P' j < 65536) (hr : rL v f g n P ks A yn F G ad c0 c1 n0 P0 n1 P1) : rL v' f' g' n' P' ks A yn F G ad c0 c1 n0 P0 n1 P1 := by
  obtain ⟨a1, a2, a3, a4, a5, a6, a7, a8, a9⟩ := hr
  unfold rL rD1
  rw [h.1 6 (dj_n h1 (by decide)), h.1 9 (dj_n h1 (by decide)), h.1 10 (dj_n h1 (by decide)), h.1 13 (dj_n h1 (by decide)), h.1 14 (dj_n h1 (by decide)), h.2.1 8 (dj_n h2 (by decide)), h.2.2 4 (dj_n h3 (by decide)), h.2.2 5 (dj_n h3 (by decide)), h.2.2 6 (dj_n h3 (by decide)), h.2.2 7 (dj_n h3 (by decide))]
  exact ⟨mPow_fr (h.2.2 1 (dj_n h3 (by decide))) a1, hp, a3, a4, a5, a6, a7, a8, a9⟩
/-- what a call on the language leaves -/
theorem Rel_L {WL WL' : List Int64} {mc ms : Nat} (hc : fr S T ρ ρ' M) (hM : dj lRm M) (ho : cA T out 15 ∧ cn T out = 1 ∧ ρ' out = 90) (h : rF Am Fm Gm v f g v' f' g') (h1 : dj lRv Am) (h2 : dj lRf Fm) (h3 : dj [12, 17, 45] Gm) (hW : ∀ c, c ∈ WL → c ∈ WL') (hm : mc ≤ 1170) (hs : ms ≤ 13440) (hr : Rest (lgT ks A yn F G) ad k WL S ρ dp x out v f g cd dd) (hl : Lp (k + 1) WL' T ρ' x v' f' g' n P ks A yn F G ad c0 c1 n0 P0 n1 P1) : Rel (k + 1) T dp x out v' f' g' (cd + mc) (dd + ms) := ⟨ρ', WL', n, P, ks, A, yn, F, G, ad, c0, c1, n0, P0, n1, P1, hl, Rest_fr hc hM h h1 h2 h3 hW ho hm hs hr⟩
end CASA
section CASB
variable {S : cS} {v : Nat → Int32} {f : Nat → Nat → Int32} {g : Nat → Nat → Int64} {dp x out k cd dd L : Nat} {x4 : Int32} {xs : Nat → Int32} {R : Int32 → Nat → Nat → cS → (Nat → Int32) → (Nat → Nat → Int32) → (Nat → Nat → Int64) → Prop}
/-- what comes behind a call -/
def nxR (R : Int32 → Nat → Nat → cS → (Nat → Int32) → (Nat → Nat → Int32) → (Nat → Nat → Int64) → Prop) (k dp x out : Nat) (x4 : Int32) : Prop := ∀ (cd dd : Nat) (S : cS) (v : Nat → Int32) (f : Nat → Nat → Int32) (g : Nat → Nat → Int64), Rel (k + 1) S dp x out v f g cd dd → R (x4 + nI 6) cd dd S v f g
theorem rF_99u {t : Int32} : rF [99] [] [] v f g (upd v 99 t) f g := ⟨fun i hi => upd_n (fun e => hi (by rw [e]; decide)), fun _ _ => rfl, fun _ _ => rfl⟩
/-- a call that only throws leaves all as it was -/
theorem Rel_x {t : Int32} {mc ms : Nat} (hm : mc ≤ 1170) (hs : ms ≤ 13440) (h : Rel k S dp x out v f g cd dd) : Rel (k + 1) S dp x out (upd v 99 t) f g (cd + mc) (dd + ms) := by
  obtain ⟨ρ, WL, n, P, ks, A, yn, F, G, ad, c0, c1, n0, P0, n1, P1, hl, hr⟩ := h
  have hx : ρ x = 1 := hl.1.2.1
  exact Rel_L (M := []) fr_rf (by decide) hr.1 rF_99u (by decide) (by decide) (by decide) (fun _ z => z) hm hs hr (Lp_fr (M := []) fr_rf (by decide) hx (fun _ _ => rfl) rF_99u (by decide) (by decide) (by decide) hl)
end CASB
