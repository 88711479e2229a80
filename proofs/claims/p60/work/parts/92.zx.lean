/-! the case of plain questions -/
/-- class and law at a state -/
def W6 (T : cS) (ρ : Nat → Nat) (dp x : Nat) (ar : Nat → Nat) (ad : Bool) (dn made : Nat) (sl : Nat → List Nat) (BL : List Nat) (ix : Vw) (mg : Option (Vw × Nat)) (cm pr : Option Vw) (sn : List (Nat × Vw)) (o1 o2 : Option (Nat × Vw)) (op fi w : Nat) (cc : Option Nat) (off : Bool) (H : List (Nat × Nat)) (sk tk : Nat) (CL : List (Nat × Nat × Nat)) (u : Nat) (R : List (Nat × Nat)) : Prop := cL6 ad T ρ x ∧ C6 T ρ dp x made sl BL ix mg cm pr sn op fi w cc off H sk tk CL u ∧ I6 T ar dn made sl BL ix mg cm pr o1 o2 op fi w cc off H sk tk R ∧ tg6 ρ ar
section LZ1
variable {S T U : cS} {ρ ρ' : Nat → Nat} {M : List Nat} {dp x k cd dd made dn y key cat : Nat} {ar : Nat → Nat} {sl : Nat → List Nat} {BL : List Nat} {ix v : Vw} {mg : Option (Vw × Nat)} {cm pr : Option Vw} {sn : List (Nat × Vw)} {o1 o2 : Option (Nat × Vw)} {op fi w : Nat} {cc : Option Nat} {off ad : Bool} {H : List (Nat × Nat)} {sk tk : Nat} {R : List (Nat × Nat)} {CL : List (Nat × Nat × Nat)} {u : Nat}
theorem F6_fk (h : W6 T ρ dp x ar ad dn made sl BL ix mg cm pr sn o1 o2 op fi w cc off H sk tk CL u R) (f : fk T U ρ ρ' M) (hρ : ∀ a, a ∈ cL T → ρ' a = ρ a) (hM : dj [1, 2, 3, 4, 5, 6, 7, 8, 9, 10, 11, 12, 13, 14, 16, 17, 90] M) (gR : gRd U ρ' x 3 1) (gF : gFn U ρ' x H sk tk CL u (mbQ qs6 (sgR sl)) (sgR sl)) : W6 U ρ' dp x ar ad dn made sl BL ix mg cm pr sn o1 o2 op fi w cc off H sk tk CL u R := by
  obtain ⟨hL, hC, hI, hT⟩ := h
  obtain ⟨hx, hr⟩ := C6_x hC
  obtain ⟨⟨so, sd, a1⟩, a2, ⟨nd, a3⟩, a4, a5, a6⟩ := hC
  have n1 : 1 ∉ M := dj_n hM (by decide)
  have xU : ∀ q, cr U q x = cr T q x := fun q => fr_cr f.1 hx (by rw [hr]; exact n1)
  have xUi : ∀ q, ci U q x = ci T q x := fun q => fr_ci f.1 hx (by rw [hr]; exact n1)
  have xρ : ρ' x = 1 := (hρ x hx.1).trans hr
  have h18 : ∀ a, a ∈ cL T → ρ a = 18 → ρ' a = 18 := fun a ha e => (hρ a ha).trans e
  have gI := gIx_fk f (dj_sub hM (by decide)) a2 xρ (fun q _ => xU q) (fun q _ => xUi q) a1
  have gP : gPr U ρ' dp x 0 nd := by
    obtain ⟨q, e, gq⟩ := a3
    exact ⟨q, (xU _).trans e, gQy_fr f.1 (dj_n hM (by decide)) (dj_n hM (by decide)) h18 gq⟩
  have gQ : gQl U ρ' dp x qs6 := by
    obtain ⟨ql, l, lm, e, y1, y2, y3, y4, y5⟩ := a4
    obtain ⟨z1, z2⟩ := fr_ls f.1 (dj_n hM (by decide)) y1 y2
    exact ⟨ql, l, lm, (xU _).trans e, z1, z2, y3, y4, parL_imp (fun q e g => gQy_fr f.1 (dj_n hM (by decide)) (dj_n hM (by decide)) h18 g) y5⟩
  have gL : cL6 ad U ρ' x := by
    obtain ⟨P, c0, c1, n0, P0, n1, P1, g⟩ := hL
    exact ⟨P, c0, c1, n0, P0, n1, P1, gLD_f f.1 (dj_sub hM (by decide)) xρ (fun q _ => xU q) g⟩
  obtain ⟨gRU, tU, uI, uJ⟩ := I6_rows hI.1 hT f.1 (dj_n hM (by decide))
  exact ⟨gL, ⟨⟨so, sd, gI⟩, a2, ⟨nd, gP⟩, gQ, gR, gF⟩, I6_eq gRU uI uJ hI, tU⟩
/-- the list of those that match: members -/
theorem nl_in {b : Nat} {f : Nat → Nat → Bool} (h : b ∈ nlM sl (mtL (sgR sl) f v.1)) : ∃ n j, n ∈ v.1 ∧ (sl n)[j]? = some b ∧ f n j = true := by
  obtain ⟨w, hw, e⟩ := List.mem_map.mp h
  obtain ⟨h1, h2, h3⟩ := mf_in hw
  refine ⟨w.1, w.2, h1, ?_, h2⟩
  rw [← e, List.getD_eq_getElem?_getD, List.getElem?_eq_getElem h3]
  rfl
theorem nl_mem {n j b : Nat} {f : Nat → Nat → Bool} (hn : n ∈ v.1) (hj : (sl n)[j]? = some b) (h : f n j = true) : b ∈ nlM sl (mtL (sgR sl) f v.1) := by
  have h1 := mtL_in (sg := sgR sl) (s := (v.1, f)) hn (sgR_get.mpr ⟨b, hj, rfl⟩) h
  refine List.mem_map.mpr ⟨(n, j), h1, ?_⟩
  show (sl n).getD j 0 = b
  rw [List.getD_eq_getElem?_getD, hj]
  rfl
/-- the rank by its key -/
theorem rk_key {E : Nat → Nat} (hv : vG (sgR sl) v) {n j a : Nat} (hn : n ∈ v.1) (hj : (sl n)[j]? = some a) (hl : v.2 n j = true) (hk : a % 16 = key) : plRk E y key (nlM sl (mtL (sgR sl) (fQ sl v E y) v.1)) = cIn (opN (rkN E a y)) := by
  have ga : (sl n).getD j 0 = a := by rw [List.getD_eq_getElem?_getD, hj]; rfl
  have only : ∀ b, b ∈ nlM sl (mtL (sgR sl) (fQ sl v E y) v.1) → b % 16 = key → b = a ∧ 0 < rkN E a y := fun b hb hbk => by
    obtain ⟨n', j', h1, h2, h3⟩ := nl_in hb
    unfold fQ at h3
    rw [Bool.and_eq_true, decide_eq_true_eq] at h3
    obtain ⟨e1, e2⟩ := hv.2 key n' j' _ n j _ h1 hn (sgR_get.mpr ⟨b, h2, rfl⟩) (sgR_get.mpr ⟨a, hj, rfl⟩) h3.1 hl (by rw [dK_R]; exact hbk) (by rw [dK_R]; exact hk)
    subst e1 e2
    rw [hj] at h2
    have e := Option.some.inj h2
    exact ⟨e.symm, by rw [ga] at h3; exact h3.2⟩
  unfold opN
  by_cases c : rkN E a y = 0
  · rw [if_pos c, plRk_no (fun b hb hbk => by have := (only b hb hbk).2; omega)]
    rfl
  · rw [if_neg c]
    have hin : a ∈ nlM sl (mtL (sgR sl) (fQ sl v E y) v.1) := nl_mem hn hj (by unfold fQ; rw [hl, ga, decide_eq_true (Nat.pos_of_ne_zero c)]; rfl)
    rw [plRk_yes hin hk (fun b hb hbk => (only b hb hbk).1)]
    rfl
theorem rk_none {E : Nat → Nat} (h : ∀ (n j : Nat) (d : Dc), n ∈ v.1 → (sgR sl n)[j]? = some d → v.2 n j = true → dK d ≠ key) : plRk E y key (nlM sl (mtL (sgR sl) (fQ sl v E y) v.1)) = -1 := plRk_no (fun b hb hbk => by
  obtain ⟨n, j, h1, h2, h3⟩ := nl_in hb
  unfold fQ at h3
  rw [Bool.and_eq_true] at h3
  exact h n j _ h1 (sgR_get.mpr ⟨b, h2, rfl⟩) h3.1 (by rw [dK_R]; exact hbk))
end LZ1
