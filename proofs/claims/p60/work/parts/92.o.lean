/-! cases: a crash is asked for, a key is deleted -/
theorem i_mod {a b : Nat} (ha : a < 2 ^ 31) (h0 : 0 < b) (hb : b < 2 ^ 31) : nI a - nI a / nI b * nI b = nI (a % b) := by
  rw [pk_div ha h0 hb, pk_mul, pk_sub (Nat.div_mul_le_self a b)]
  have := Nat.div_add_mod a b
  rw [Nat.mul_comm] at this
  congr 1
  omega
section LO6
variable {S V T : cS} {dp x made dn k key : Nat} {ar : Nat → Nat} {L A : List Nat} {sl : Nat → List Nat} {BL : List Nat} {ix : Vw} {mg : Option (Vw × Nat)} {cm pr : Option Vw} {sn : List (Nat × Vw)} {o1 o2 : Option (Nat × Vw)} {op fi w : Nat} {cc cc' : Option Nat} {off ad : Bool} {H : List (Nat × Nat)} {sk tk : Nat} {R : List (Nat × Nat)} {cd dd : Nat} {Q : cS → Prop}
theorem xi_of (g : I6 S ar dn made sl BL ix mg cm pr o1 o2 op fi w cc off H sk tk R) : lXi S (ar 3) (ar 6) (ar 15) made sl ix.1 := by
  obtain ⟨g1, g2, g3, g4, g5, -⟩ := g
  refine ⟨⟨g1.1 3 (by decide), g1.1 6 (by decide), g1.1 15 (by decide)⟩, ⟨g2.2.1.1, by have := g5.1.2; omega⟩, g5.1.1, g5.2.1, fun n hn => ?_⟩
  exact ⟨(g2.2.2 n hn).1, (g2.2.2 n hn).2.1⟩
theorem pI_cc (h : pI k WL6 l6 ad (sgR sl) made (BL.map dcR) ix mg cm pr sn (slO o1 o2) op cc off) (hc : ∀ j, cc' = some j → j ≤ 1000) : pI (k + 1) WL6 l6 ad (sgR sl) made (BL.map dcR) ix mg cm pr sn (slO o1 o2) op cc' off := by
  obtain ⟨p1, p6, p7, p8, p9, p10, p11, p12, p13, p14, p15⟩ := h
  exact ⟨p1, p6, p7, ⟨p8.1, p8.2.1, p8.2.2.1, by have := p8.2.2.2; omega⟩, p9, hc, p11, p12, p13, p14, by omega⟩
theorem nI_x (a : Nat) (h : a < 2 ^ 31) : (nI a).toNatClampNeg = a := nI_clamp h
/-- a crash is asked for -/
theorem q_crash {t : Nat} (h : R6 k S dp x ar cd dd) (ht : t < 10000000) (h6 : cI S (ar 15) (nI 6).toNatClampNeg = 0) (hQ : ∀ T, R6 (k + 1) T dp x ar cd dd → Q T) : cX S (ar 15) 14 (nI 5) ∧ ∀ V, V = cSI S (ar 15) (nI 5).toNatClampNeg (nI t - nI t / nI 7 * nI 7) → cA V x 11 ∧ k_X11_crashAt Q dp x (nI t - nI t / nI 7 * nI 7) V := by
  obtain ⟨ρ, ad, dn, made, sl, BL, ix, mg, cm, pr, sn, o1, o2, op, fi, w, cc, off, H, sk, tk, CL, u, R, hL, hC, hI, hT, hP, hF, hc1, hc2⟩ := h
  obtain ⟨g1, g2, g3, g4, g5, g6, ⟨g7, g8, g9, g10⟩, g11, g12, g13⟩ := id hI
  have e6 : off = false := by
    rw [nI_x 6 (by decide), g12.2.2.1] at h6
    cases off with
    | false => rfl
    | true => exact absurd h6 (by decide)
  subst e6
  refine ⟨lR_X g1 (i := 15) (by decide) (by decide), ?_⟩
  rw [nI_x 5 (by decide), i_mod (by omega) (by decide) (by decide)]
  intro V eV
  have wV : lwT S V ([15].map ar) := eV ▸ lw_SI (by simp)
  have oV : rO S V (ar 15) [5] := fun j hj => by rw [eV]; exact cSI_o (fun e => hj (by rw [e]; simp))
  have v5 : cI V (ar 15) 5 = nI (t % 7) := by rw [eV]; exact cSI_s
  have fV := fr_lw (ρ := ρ) wV (tg_map hT rfl)
  obtain ⟨⟨so, sd, a1⟩, a2, a3, a4, a5, a6⟩ := C6_fr fV (by decide) hC
  have iV : I6 V ar dn made sl BL ix mg cm pr o1 o2 op fi w (some (t % 7)) false H sk tk R := ⟨lR_w wV g1, sg_w g1 wV rfl g2, sz_w oV rfl g3, bf_w g1 wV rfl oV rfl g4, ix_w g1 wV rfl oV rfl g5, mg_w g1 wV rfl oV rfl g6, ⟨of_w 7 (by decide) ⟨rfl, rfl⟩ g1 wV rfl g7, of_w 8 (by decide) ⟨rfl, rfl⟩ g1 wV rfl g8, of_w 9 (by decide) ⟨rfl, rfl⟩ g1 wV rfl g9, of_w 10 (by decide) ⟨rfl, rfl⟩ g1 wV rfl g10⟩, wr_w g1 wV rfl g11, ⟨(oV 4 (by decide)).trans g12.1, fun _ => v5, (oV 6 (by decide)).trans g12.2.2.1, (oV 7 (by decide)).trans g12.2.2.2.1, (oV 8 (by decide)).trans g12.2.2.2.2⟩, fi_w g1 wV rfl oV rfl g13⟩
  have hm : t % 7 < 7 := Nat.mod_lt _ (by decide)
  refine ⟨a1.1.1, g_crashAt a1 a2 (by omega) (fun T eT gT => hQ T ?_)⟩
  exact R6_I hL hC hT fV eT ⟨so, sd, gT⟩ a2 iV (pI_cc hP (fun j e => by cases e; omega)) hF (Nat.le_refl _) (fun _ _ => rfl) (by omega) (by omega)
theorem bf_map {key : Nat} {BL : List Nat} : (bfK BL key).length ≤ BL.length := List.length_filter_le _ _
/-- the law deletes -/
theorem I6_dels {Q : Int32 → cS → Prop} (g : I6 S ar dn made sl BL ix mg cm pr o1 o2 op fi w cc off H sk tk R) (nd : ix.1.Nodup) (hkey : key < 100) (hQ : ∀ V, lwT S V ([1, 4, 15].map ar) → (∀ lv', (∀ n, n ∈ ix.1 → bN (lvK sl ix.2 key n) (sl n).length = bN (lv' n) (sl n).length) → I6 V ar dn made sl (bfK BL key) (ix.1, lv') mg cm pr o1 o2 op fi w cc off H sk tk R) → BL.length - (bfK BL key).length + klS sl ix.2 key ix.1 < 1000 → Q (nI (BL.length - (bfK BL key).length + klS sl ix.2 key ix.1)) V) : k_L_deletes Q dp (ar 0) (ar 1) (ar 2) (ar 3) (ar 4) (ar 6) (ar 15) (nI key) S := by
  have gx := xi_of g
  obtain ⟨g1, g2, g3, g4, g5, g6, ⟨g7, g8, g9, g10⟩, g11, g12, g13⟩ := id g
  refine q_del1 (g1.1 1 (by decide)) (g1.1 15 (by decide)) hkey g4.2.1 g4.1 g4.2.2 (fun T wT oT m1 bT => ?_)
  have wT' : lwT S T ([1, 15].map ar) := wT
  have xT : lXi T (ar 3) (ar 6) (ar 15) made sl ix.1 := by
    have gT := lR_w wT' g1
    refine ⟨⟨gT.1 3 (by decide), gT.1 6 (by decide), gT.1 15 (by decide)⟩, gx.2.1, (oT 3 (by decide)).trans gx.2.2.1, ?_⟩
    rw [lwI g1 wT' 6 rfl, lwI g1 wT' 3 rfl]
    exact gx.2.2.2
  have hkl : klS sl ix.2 key ix.1 ≤ 10 * ix.1.length := sumL_bd (fun n hn => by
    obtain ⟨i, hi⟩ := List.mem_iff_getElem?.mp hn
    exact Nat.le_trans (cntB_le _ _) (gx.2.2.2.2 n (gx.2.2.2.1 i n hi).2).2)
  refine q_del2 (lv := ix.2) (sg_w g1 wT' rfl g2) xT ((lR_w wT' g1).1 4 (by decide)) nd ⟨lR_ne g1 (by decide) (by decide) (by decide), lR_ne g1 (by decide) (by decide) (by decide), lR_ne g1 (by decide) (by decide) (by decide)⟩ hkey (by have := g4.2.1; omega) (fun n hn => by rw [lwI g1 wT' 4 rfl]; exact g5.2.2 n hn) (fun U wU vU => ?_)
  have wU' : lwT T U ([4].map ar) := wU
  have w3 : lwT S U ([1, 4, 15].map ar) := lw_tr (lw_wk wT' (fun a ha => by simp at ha ⊢; rcases ha with e | e <;> simp [e])) wU' (fun a ha => by simp at ha ⊢; simp [ha])
  have oU : rO S U (ar 15) [1] := fun j hj => by rw [lwI (lR_w wT' g1) wU' 15 rfl]; exact oT j hj
  refine hQ U w3 (fun lv' hlv => ?_) (by have := g4.2.1; have := gx.2.1.2; omega)
  refine ⟨lR_w w3 g1, sg_w g1 w3 rfl g2, ⟨⟨(oU 0 (by decide)).trans g3.1.1, by have := g3.1.2; have := bf_map (key := key) (BL := BL); omega⟩, ⟨(oU 2 (by decide)).trans g3.2.1.1, g3.2.1.2⟩, g3.2.2.1, fun a ha => g3.2.2.2 a (List.mem_filter.mp ha).1⟩, ⟨?_, by have := g4.2.1; have := bf_map (key := key) (BL := BL); omega, fun i a hi => ?_⟩, ⟨⟨(oU 3 (by decide)).trans g5.1.1, g5.1.2⟩, fun i n hi => by rw [lwI g1 w3 6 rfl]; exact g5.2.1 i n hi, fun n hn => ?_⟩, mg_w g1 w3 rfl oU rfl g6, ⟨of_w 7 (by decide) ⟨rfl, rfl⟩ g1 w3 rfl g7, of_w 8 (by decide) ⟨rfl, rfl⟩ g1 w3 rfl g8, of_w 9 (by decide) ⟨rfl, rfl⟩ g1 w3 rfl g9, of_w 10 (by decide) ⟨rfl, rfl⟩ g1 w3 rfl g10⟩, wr_w g1 w3 rfl g11, nm_w oU rfl g12, fi_w g1 w3 rfl oU rfl g13⟩
  · rw [lwI (lR_w wT' g1) wU' 15 rfl]; exact m1
  · refine ⟨by rw [lwJ (lR_w wT' g1) wU' 1 rfl]; exact bT i a hi, ?_⟩
    obtain ⟨j, hj⟩ := List.mem_iff_getElem?.mp (List.mem_filter.mp (List.mem_of_getElem? hi)).1
    exact (g4.2.2 j a hj).2
  · rw [vU n hn, hlv n hn]
theorem pI_del {B' : List Dc} {lv' : Nat → Nat → Bool} {b : Bool} (h : pI k WL6 l6 ad (sgR sl) made (BL.map dcR) ix mg cm pr sn (slO o1 o2) op cc false) (hd : dkR (sgR sl) ix.1 (nI key) (BL.map dcR) ix.2 B' lv' b) : pI (k + 1) WL6 l6 ad (sgR sl) made B' (ix.1, lv') mg cm pr sn (slO o1 o2) op cc false := by
  obtain ⟨⟨p1, p2, p3, p4, p5⟩, p6, p7, ⟨p8, p8b, p8c, p8d⟩, p9, p10, p11, p12, p13, p14⟩ := h
  obtain ⟨s1, s2, s3, s4⟩ := dkR_sub hd
  exact ⟨⟨⟨p1.1, fun key n j d n' j' d' h1 h2 h3 h4 h5 h6 => p1.2 key n j d n' j' d' h1 h2 h3 h4 (s3 n j h5) (s3 n' j' h6)⟩, p2, p3, p4, p5⟩, ⟨s4 p6.1, fun d hd n j d' h1 h2 h3 => p6.2 d (s1 d hd) n j d' h1 h2 (s3 n j h3)⟩, p7, ⟨p8, p8b, p8c, by omega⟩, fun w => absurd w (by decide), p10, fun z => ⟨List.eq_nil_of_length_eq_zero (by have := (p11 z).1; rw [this] at s2; exact Nat.le_zero.mp s2), (p11 z).2⟩, ⟨p12.1, fun d hd => p12.2 d (s1 d hd)⟩, p13, p14.1, by have := p14.2; omega⟩
end LO6
