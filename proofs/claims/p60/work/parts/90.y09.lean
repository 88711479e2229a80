/-! the class: text, columns -/
section OQ
variable {S T : cS} {ρ ρ' : Nat → Nat} {M : List Nat} {dp x n : Nat} {P : Nat → Nat} {ks : Nat} {A : Nat → Int64} {yn : Nat} {F G : Nat → Int64} {ad : Bool} {c0 c1 : Int32} {n0 : Nat} {P0 : Nat → Nat} {n1 : Nat} {P1 : Nat → Nat}
theorem gLg_tok {L m' t κ : Nat} {l' : List (Int64 × Nat)} (gl : gLg S ρ L ks A yn F G ad) (g1 : lGd T L ks A yn F G) (hi : ∀ q, q ≠ 98 → ci T q L = ci S q L) (hr : ∀ q, cr T q L = cr S q L) : gLg T (rtg S id ρ κ) L ks A yn F G ad := by
  refine ⟨g1, (hi _ (by decide)).trans gl.2.1, fun z hz => ?_⟩
  unfold lF at hz
  simp only [hr] at hz
  exact (rtg_o (lF_in gl.1 hz)).trans (gl.2.2 z hz)
theorem q_putText {Q : cS → Prop} {D t k : Nat} (hD : cA S D 0) (hk : k < 2) (h : ∀ T, T = cSr S (3 + k) D (some t) → Q T) : k_X0_putText Q dp D (nI k) t S := by
  unfold k_X0_putText
  refine w_nz k (fun z => ⟨hD, ?_⟩) (fun z => ⟨hD, ?_⟩)
  · obtain rfl : k = 1 := by omega
    exact h
  · obtain rfl : k = 0 := by omega
    exact h
set_option maxHeartbeats 1000000 in
theorem g_text {Q : Int32 → cS → Prop} {mc ms k : Nat} {P' : Nat → Nat} (g : gLD S ρ x n P ks A yn F G ad c0 c1 n0 P0 n1 P1) (hk : k < 2) (hm : 226 ≤ mc) (hs : 1821 ≤ ms) (h : ∀ T ρ', fr S T ρ ρ' [2, 3, 4, 5, 6] → gLD T ρ' x 0 P' ks A yn F G ad c0 c1 (if k = 0 then n else n0) (if k = 0 then P else P0) (if k = 0 then n1 else n) (if k = 0 then P1 else P) → Q (nI (tkL F G yn (fun c => anyB (fun j => A j == c) ks) (fun k => lN (stW (wdW P n k))) (wdC P n)).length) T) : k_X11_text Q dp mc ms x (nI k) S := by
  obtain ⟨hx, hρ, L, D, p, e1, e2, gl, ep, gp, gd⟩ := g
  unfold k_X11_text
  refine ⟨⟨by omega, by omega⟩, q_checkN hk ⟨hx, L, e1, gl.1.1, 4, 45, by omega, by omega, q_takePad gl.1.1 ep (by omega) (by omega) (fun T1 q hq s1 c96 cr1 ci1 hn => ?_)⟩⟩
  have ρL : ρ L = 2 := gl.2.2 L (Or.inl rfl)
  obtain ⟨ρ1, hρ1⟩ : ∃ r, r = rtg S (padTo (5 + k)) ρ 3 := ⟨_, rfl⟩
  have o1 : ∀ a, a ∈ cL S → ρ a ≠ 3 → ρ1 a = ρ a := fun a ha h3 => by rw [hρ1]; exact (rtg_o ha).trans (if_neg h3)
  have f1 : fr S T1 ρ ρ1 [2, 3] := ⟨sub_wk s1 (fun a _ h => by rw [h, ρL]; decide), fun a ha h => o1 a ha (fun z => h (by rw [z]; decide))⟩
  have x1 := fr_A f1 hx
  have r1 : ∀ q, cr T1 q x = cr S q x := fun q => fr_cr f1 hx (by rw [hρ]; decide)
  have ρx1 : ρ1 x = 1 := (o1 x hx.1 (by rw [hρ]; decide)).trans hρ
  have gl1 : gLg T1 ρ1 L ks A yn F G ad := gLg_pad (a := true) gl s1 cr1 ci1 (fun z hz h2 => (o1 z hz (by rw [h2]; decide)).trans h2)
  have gn1 : gTx T1 ρ1 3 q 0 P' := gTx_new hn hq (fun a ha => by rw [hρ1]; exact rtg_n ha)
  have gp1 : gTx T1 ρ1 (5 + k) p n P := gTx_sub s1 (fun a ha h3 => ⟨fun z => by rw [z, ρL] at h3; exact absurd h3 (by decide), by rw [hρ1]; exact (rtg_o ha).trans (if_pos h3)⟩) gp
  obtain ⟨D1, D2, D3, D4, t0, t1, tr0, tr1, gt0, gt1⟩ := gDr_fr f1 (by decide) (by decide) (by decide) gd
  obtain ⟨m, l, tk1⟩ := gp1.2.1
  refine ⟨x1, L, (r1 _).trans e1, gl1.1.1, 222, 1776, by omega, by omega, ?_⟩
  show k_X3_tokenise _ dp _ _ L p (bI true) T1
  have hd : ∀ z, lF T1 L z → ¬ tF T1 p z := fun z hz hz2 => by
    have a1 := gl1.2.2 z hz
    have a2 := gp1.2.2.2.1 z hz2
    omega
  refine q_tokenise gl1.1 gp1.1 tk1 hd (Nat.le_refl _) (Nat.le_refl _) (fun T2 m' s2 g2 i2 r2 tk2 z2 ti2 tr2 => ?_)
  rw [if_pos rfl] at tk2
  have lwF : ∀ a, lw T1 L a → ρ1 a = 2 := fun a ha => gl1.2.2 a (ha.elim Or.inl (fun y => Or.inr (Or.inl y)))
  have f2 : fr T1 T2 ρ1 (rtg T1 id ρ1 (5 + k)) [2, 5 + k] := ⟨sub_wk s2 (fun a _ h => by
    rcases h with h | h
    · rw [lwF a h]; exact List.mem_cons_self ..
    · rw [gp1.2.2.2.1 a h]; exact List.mem_cons_of_mem _ (List.mem_cons_self ..)), fun a ha _ => rtg_o ha⟩
  have nm : ∀ {c : Nat}, c ≠ 2 → c ≠ 5 + k → c ∉ [2, 5 + k] := fun h1 h2 z => by
    rcases List.mem_cons.mp z with y | y
    · exact h1 y
    · exact h2 (List.mem_singleton.mp y)
  have gl2 : gLg T2 (rtg T1 id ρ1 (5 + k)) L ks A yn F G ad := gLg_tok (m' := m') (t := p) (l' := l) gl1 g2 i2 r2
  have gn2 := gTx_fr f2 (nm (by decide) (by omega)) gn1
  have gp2 := gTx_tok gp1 s2 (fun a ha hk => ha.elim (fun y => absurd ((lwF a y).symm.trans hk) (by omega)) id) tk2 z2 ti2 tr2
  have x2 := fr_A f2 x1
  have ρx2 : (rtg T1 id ρ1 (5 + k)) x = 1 := (rtg_o x1.1).trans ρx1
  have xr2 : ∀ q, cr T2 q x = cr S q x := fun q => (fr_cr f2 x1 (by rw [ρx1]; exact nm (by decide) (by omega))).trans (r1 q)
  have c2 : cr T2 96 L = some q := (r2 _).trans c96
  have D1' := fr_A f2 D1
  have ρD2 : (rtg T1 id ρ1 (5 + k)) D = 4 := (rtg_o D1.1).trans D2
  have nD : ρ1 D ∉ [2, 5 + k] := by rw [D2]; exact nm (by decide) (by omega)
  refine ⟨x2, D, (xr2 _).trans e2, D1', ⟨by omega, by omega⟩, q_putText D1' hk (fun T3 e3 => ?_)⟩
  have f3 : fr T2 T3 (rtg T1 id ρ1 (5 + k)) (rtg T1 id ρ1 (5 + k)) [4] := ⟨e3 ▸ sub_Sr (F := fun a => rtg T1 id ρ1 (5 + k) a ∈ [4]) (by rw [ρD2]; decide), fun _ _ _ => rfl⟩
  have f : fr S T3 ρ (rtg T1 id ρ1 (5 + k)) [2, 3, 4, 5, 6] := by
    have f12 : fr S T2 ρ (rtg T1 id ρ1 (5 + k)) [2, 3, 4, 5, 6] := by
      refine fr_tr (fr_wk f1 (N := [2, 3, 4, 5, 6]) (fun τ hτ => ?_)) f2 (fun a ha ha2 => ?_)
      · rcases List.mem_cons.mp hτ with y | y
        · rw [y]; decide
        · rw [List.mem_singleton.mp y]; decide
      · by_cases h3 : ρ a = 3
        · rw [h3]; decide
        · rw [o1 a ha h3] at ha2
          rcases List.mem_cons.mp ha2 with y | y
          · rw [y]; decide
          · rw [List.mem_singleton.mp y]
            rcases (show k = 0 ∨ k = 1 by omega) with rfl | rfl <;> decide
    refine fr_tr f12 f3 (fun a ha ha2 => ?_)
    have a4 := List.mem_singleton.mp ha2
    rw [rtg_o (s1 a ha).1.1] at a4
    by_cases h3 : ρ a = 3
    · rw [h3]; decide
    · rw [show id (ρ1 a) = ρ a from o1 a ha h3] at a4
      rw [a4]; decide
  have x3 := fr_A f3 x2
  have xr3 : ∀ q, cr T3 q x = cr S q x := fun q => (fr_cr f3 x2 (by rw [ρx2]; decide)).trans (xr2 q)
  have D3i : ∀ q, ci T3 q D = ci T1 q D := fun q => (hi_Sr e3 rfl).trans (fr_ci f2 D1 nD)
  have k5 : ∀ {c : Nat}, c = 5 + k → c ∉ [4] := fun hc z => by have := List.mem_singleton.mp z; omega
  have gp3 := gTx_fr f3 (k5 rfl) gp2
  refine ⟨(gp3.1.1), ⟨by omega, by omega⟩, ?_⟩
  have e292 : ci T3 292 p = nI (tkL F G yn (fun c => anyB (fun j => A j == c) ks) (fun k => lN (stW (wdW P n k))) (wdC P n)).length := (hi_Sr e3 rfl).trans tk2.2.1
  rw [e292]
  refine h T3 _ f ⟨x3, ρx2, L, D, q, (xr3 _).trans e1, (xr3 _).trans e2, gLg_fr f3 (by decide) gl2, (fr_cr f3 gl2.1.1 (by rw [gl2.2.2 L (Or.inl rfl)]; decide)).trans c2, gTx_fr f3 (by decide) gn2, fr_A f3 D1', ρD2, (D3i _).trans D3, (D3i _).trans D4, ?_⟩
  rcases (show k = 0 ∨ k = 1 by omega) with rfl | rfl
  · exact ⟨p, t1, hr_Sr_s e3, hr_Sr_q e3 (by decide) ((fr_cr f2 D1 nD).trans tr1), gp3, gTx_fr f3 (by decide) (gTx_fr f2 (by decide) gt1)⟩
  · exact ⟨t0, p, hr_Sr_q e3 (by decide) ((fr_cr f2 D1 nD).trans tr0), hr_Sr_s e3, gTx_fr f3 (by decide) (gTx_fr f2 (by decide) gt0), gp3⟩
theorem g_columns {Q : cS → Prop} {a b : Nat} (g : gLD S ρ x n P ks A yn F G ad c0 c1 n0 P0 n1 P1) (ha : a ≤ 9) (hb : b ≤ 999) (h : ∀ T, fr S T ρ ρ [4] → gLD T ρ x n P ks A yn F G ad (nI a) (nI b) n0 P0 n1 P1 → Q T) : k_X11_columns Q dp x (nI a) (nI b) S := by
  obtain ⟨hx, hρ, L, D, p, e1, e2, gl, ep, gp, D1, D2, D3, D4, t0, t1, tr0, tr1, gt0, gt1⟩ := g
  unfold k_X11_columns
  refine w_pos a (pk_lt 9 a (fun z => absurd z (by omega)) (fun _ => w_pos b (pk_le b 999 (fun _ => ⟨hx, D, e2, D1, ?_⟩) (fun z => absurd z (by omega)))))
  intro S2 e3
  have f3 : fr S S2 ρ ρ [4] := ⟨e3 ▸ sub_Si (F := fun a => ρ a ∈ [4]) (by rw [D2]; decide), fun _ _ _ => rfl⟩
  have x3 := fr_A f3 hx
  refine ⟨x3, D, (fr_cr f3 hx (by rw [hρ]; decide)).trans e2, fr_A f3 D1, ?_⟩
  intro S4 e4
  have f4 : fr S S4 ρ ρ [4] := fr_tr f3 ⟨e4 ▸ sub_Si (F := fun a => ρ a ∈ [4]) (by rw [D2]; decide), fun _ _ _ => rfl⟩ (fun _ _ z => z)
  have xr : ∀ q, cr S4 q x = cr S q x := fun q => fr_cr f4 hx (by rw [hρ]; decide)
  exact h S4 f4 ⟨fr_A f4 hx, hρ, L, D, p, (xr _).trans e1, (xr _).trans e2, gLg_fr f4 (by decide) gl, (fr_cr f4 gl.1.1 (by rw [gl.2.2 L (Or.inl rfl)]; decide)).trans ep, gTx_fr f4 (by decide) gp, fr_A f4 D1, D2, hi_Si_q e4 (by decide) (hi_Si_s e3), hi_Si_s e4, t0, t1, hr_Si e4 (hr_Si e3 tr0), hr_Si e4 (hr_Si e3 tr1), gTx_fr f4 (by decide) gt0, gTx_fr f4 (by decide) gt1⟩
theorem x_columns {Q : cS → Prop} {a b : Int32} {mc ms : Nat} (h0 : ¬ ∃ i j, i ≤ 9 ∧ j ≤ 999 ∧ a = nI i ∧ b = nI j) (hm : 1 ≤ mc) (hs : 6 ≤ ms) (h : Q S) : kx_X11_columns "java/lang/IllegalArgumentException" Q dp mc ms x a b S := by
  have y : "java/lang/IllegalArgumentException" = "java/lang/IllegalArgumentException" ∧ (0 + 1 ≤ mc ∧ 0 + 6 ≤ ms) ∧ Q S := ⟨rfl, ⟨by omega, by omega⟩, h⟩
  unfold kx_X11_columns
  refine ⟨fun _ => y, fun c1 => ⟨fun _ => y, fun c2 => ⟨fun _ => y, fun c3 => ⟨fun c4 => ?_, fun _ => y⟩⟩⟩⟩
  obtain ⟨i, hi, rfl⟩ := nI_of c1
  obtain ⟨j, hj, rfl⟩ := nI_of c3
  exact absurd ⟨i, j, by have := mt (nI_ltI (by decide) hi).mpr c2; omega, (nI_leI hj (by decide)).mp c4, rfl, rfl⟩ h0
theorem x_text {Q : cS → Prop} {y : Int32} {mc ms : Nat} (hk : ∀ k, k < 2 → y ≠ nI k) (hm : 1 ≤ mc) (hs : 6 ≤ ms) (h : Q S) : kx_X11_text "java/lang/IndexOutOfBoundsException" Q dp mc ms x y S := by
  unfold kx_X11_text
  exact Or.inr ⟨1, 6, ⟨by omega, by omega⟩, x_checkN hk (Nat.le_refl _) (Nat.le_refl _) h⟩
end OQ
