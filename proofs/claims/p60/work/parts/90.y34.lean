/-! the class: add, delete -/
/-- what deleting a key does -/
def dkR (sg : Nat → List Dc) (ids : List Nat) (k : Int32) (B : List Dc) (lv : Nat → Nat → Bool) (B' : List Dc) (lv' : Nat → Nat → Bool) (b : Bool) : Prop := (∃ (i : Nat) (d : Dc), B[i]? = some d ∧ nI (dK d) = k ∧ B' = B.eraseIdx i ∧ lv' = lv ∧ b = true) ∨ ((∀ d, d ∈ B → nI (dK d) ≠ k) ∧ B' = B ∧ ((∃ (n j : Nat) (d : Dc), n ∈ ids ∧ (sg n)[j]? = some d ∧ lv n j = true ∧ nI (dK d) = k ∧ lv' = (fun n' i => if n' = n ∧ i = j then false else lv n' i) ∧ b = true) ∨ ((∀ (n j : Nat) (d : Dc), n ∈ ids → (sg n)[j]? = some d → lv n j = true → nI (dK d) ≠ k) ∧ lv' = lv ∧ b = false)))
section AE
variable {S T : cS} {ρ ρ' : Nat → Nat} {dp x n : Nat} {P : Nat → Nat} {ks : Nat} {A : Nat → Int64} {yn : Nat} {F G : Nat → Int64} {ad : Bool} {B : List Dc} {so : Nat → Nat} {sd : Nat → List Nat} {sg : Nat → List Dc} {made V : Nat} {ids : List Nat} {lv : Nat → Nat → Bool}
theorem g_dropKey1 {Q : Int32 → cS → Prop} {k : Int32} (hx : cA S x 11) (hρ : ρ x = 1) (g : gBf S ρ dp x B) (e355 : cr S 355 x = some V) (gs : gSegs S ρ dp so sd sg made) (gv : gVw S ρ dp so sd sg 9 10 V ids lv) (hid : ∀ n, n ∈ ids → n < made) (hnd : ids.Nodup)
    (h : ∀ T ρ' B' lv' b, fr S T ρ ρ' [7, 10] → gBf T ρ' dp x B' → gVw T ρ' dp so sd sg 9 10 V ids lv' → dkR sg ids k B lv B' lv' b → Q (bI b) T) : k_X11_dropKey Q dp x k S := by
  have e7 : ∀ τ, τ ∈ [7] → τ ∈ [7, 10] := fun τ h => by rw [List.mem_singleton.mp h]; decide
  have e10 : ∀ τ, τ ∈ [10] → τ ∈ [7, 10] := fun τ h => by rw [List.mem_singleton.mp h]; decide
  refine g_dropKey hx hρ g e355 gs gv hid hnd (fun T ρ' i d f hd hk gB => ?_) (fun T n j d f hno hn hd hl hk gV => ?_) (fun hno hn2 => ?_)
  · exact h T ρ' _ lv true (fr_wk f e7) gB (gVw_fr f (by decide) (by decide) (gSegs_fr (fr_fk f (by decide)) (by decide) gs) hid gv) (Or.inl ⟨i, d, hd, hk, rfl, rfl, rfl⟩)
  · exact h T ρ B _ true (fr_wk f e10) (gBf_fr f (by decide) (by decide) (fr_cr f hx (by rw [hρ]; decide)) g) gV (Or.inr ⟨hno, rfl, Or.inl ⟨n, j, d, hn, hd, hl, hk, rfl, rfl⟩⟩)
  · exact h S ρ B lv false fr_rf g gv (Or.inr ⟨hno, rfl, Or.inr ⟨hn2, rfl, rfl⟩⟩)
theorem q_checkKey {Q : cS → Prop} {k : Nat} (hk : k < 100) (h : Q S) : k_X11_checkKey Q dp (nI k) S := by
  unfold k_X11_checkKey
  exact w_pos k (pk_lt k 100 (fun _ => h) (fun z => absurd z (by omega)))
theorem x_checkKey {Q : cS → Prop} {y : Int32} {mc ms : Nat} (hk : ∀ k, k < 100 → y ≠ nI k) (hm : 1 ≤ mc) (hs : 6 ≤ ms) (h : Q S) : kx_X11_checkKey "java/lang/IndexOutOfBoundsException" Q dp mc ms y S := by
  unfold kx_X11_checkKey
  refine ⟨fun _ => ⟨rfl, ⟨by omega, by omega⟩, h⟩, fun c => ⟨fun d => ?_, fun _ => ⟨rfl, ⟨by omega, by omega⟩, h⟩⟩⟩
  obtain ⟨j, hj, rfl⟩ := nI_of c
  exact hk j ((nI_ltI hj (by decide)).mp d) rfl
theorem q_checkUp {Q : cS → Prop} (hx : cA S x 11) (hu : ci S 370 x = bI false) (h : Q S) : k_X11_checkUp Q dp x S := by
  unfold k_X11_checkUp
  rw [hu]
  exact ⟨hx, fun _ => h, fun c => absurd rfl c⟩
theorem x_checkUp {Q : cS → Prop} {mc ms : Nat} (hx : cA S x 11) (hu : ci S 370 x = bI true) (hm : 1 ≤ mc) (hs : 6 ≤ ms) (h : Q S) : kx_X11_checkUp "java/lang/IllegalStateException" Q dp mc ms x S := by
  unfold kx_X11_checkUp
  rw [hu]
  exact ⟨hx, fun c => absurd c (by decide), fun _ => ⟨rfl, ⟨by omega, by omega⟩, h⟩⟩
/-- a document of the draft -/
noncomputable def mkD (ks : Nat) (A : Nat → Int64) (yn : Nat) (F G : Nat → Int64) (k a b n0 : Nat) (P0 : Nat → Nat) (n1 : Nat) (P1 : Nat → Nat) : Dc := ((k, a, b), tkL F G yn (fun c => anyB (fun j => A j == c) ks) (fun k => lN (stW (wdW P0 n0 k))) (wdC P0 n0), tkL F G yn (fun c => anyB (fun j => A j == c) ks) (fun k => lN (stW (wdW P1 n1 k))) (wdC P1 n1))
theorem gLg_add {L : Nat} (gl : gLg S ρ L ks A yn F G ad) (e : T = cSi S 104 L (bI true)) : gLg T ρ L ks A yn F G true ∧ fr S T ρ ρ [2] := by
  obtain ⟨g1, g2, g3⟩ := gl
  obtain ⟨h1, h2, h3, w, a, b, c, ⟨w1, w2, w3⟩, ⟨a1, a2, a3, a4⟩, ⟨b1, b2, b3, b4⟩, ⟨c1, c2, c3, c4⟩, hd⟩ := id g1
  have f : fr S T ρ ρ [2] := ⟨e ▸ sub_Si (F := fun a => ρ a ∈ [2]) (by rw [g3 L (Or.inl rfl)]; decide), fun _ _ _ => rfl⟩
  have r : ∀ q, cr T q L = cr S q L := fun q => by rw [e]; rfl
  have J : ∀ d, cJ T d = cJ S d := fun d => by rw [e]; rfl
  refine ⟨⟨⟨fr_A f h1, ⟨hi_Si_q e (by decide) h2.1, h2.2⟩, ⟨hi_Si_q e (by decide) h3.1, h3.2⟩, w, a, b, c, ⟨(r _).trans w1, fr_A f w2, (sub_cn f.1 w2).trans w3⟩, ⟨(r _).trans a1, fr_A f a2, (sub_cn f.1 a2).trans a3, (J a).trans a4⟩, ⟨(r _).trans b1, fr_A f b2, (sub_cn f.1 b2).trans b3, (J b).trans b4⟩, ⟨(r _).trans c1, fr_A f c2, (sub_cn f.1 c2).trans c3, (J c).trans c4⟩, hd⟩, hi_Si_s e, fun z hz => ?_⟩, f⟩
  unfold lF at hz
  simp only [r] at hz
  exact g3 z hz
set_option maxHeartbeats 2000000 in
theorem g_add39 {Q : Int32 → cS → Prop} {mc ms k a b n0 n1 : Nat} {P0 P1 P0' P1' : Nat → Nat} (g : gLD S ρ x n P ks A yn F G ad (nI a) (nI b) n0 P0 n1 P1) (gb : gBf S ρ dp x B) (e355 : cr S 355 x = some V) (gs : gSegs S ρ dp so sd sg made) (gv : gVw S ρ dp so sd sg 9 10 V ids lv) (hid : ∀ n, n ∈ ids → n < made) (hnd : ids.Nodup) (hdp : dpO dp S) (hk : k < 100) (ha : a ≤ 9) (hb : b ≤ 999) (hB : B.length ≤ 11 ∨ ∃ d, d ∈ B ∧ nI (dK d) = nI k) (hm : 455 ≤ mc) (hs : 3670 ≤ ms)
    (h : ∀ T ρ' B' lv' b', fr S T ρ ρ' [1, 2, 4, 5, 6, 7, 10] → dkR sg ids (nI k) B lv B' lv' b' → gLD T ρ' x n P ks A yn F G true (nI 0) (nI 0) 0 P0' 0 P1' → gBf T ρ' dp x (B' ++ [mkD ks A yn F G k a b n0 P0 n1 P1]) → gVw T ρ' dp so sd sg 9 10 V ids lv' → (∀ q, ci T q x = ci S q x) → (∀ q, q ≠ 353 → cr T q x = cr S q x) → Q (nI (B'.length + 1)) T) : k_X11_add_39 Q dp mc ms x (nI k) 0 0 S := by
  obtain ⟨hx, hρ, L, D, p, e1, e2, gl, ep, gp, gd⟩ := g
  unfold k_X11_add_39
  refine ⟨hx, ⟨by omega, by omega⟩, g_dropKey1 hx hρ gb e355 gs gv hid hnd (fun T1 ρ1 B1 lv1 b1 f1 gb1 gv1 rel => ?_)⟩
  have hB1 : B1.length ≤ 11 := by
    rcases rel with ⟨i, d, hd, hk', rfl, -, -⟩ | ⟨hno, rfl, -⟩
    · rw [List.length_eraseIdx_of_lt (get_lt hd)]
      obtain ⟨b, bs, m, -, -, -, -, -, g6, -⟩ := gb
      omega
    · rcases hB with hB | ⟨d, hd, hd2⟩
      · exact hB
      · exact absurd hd2 (hno d hd)
  have x1 := fr_A f1 hx
  have ρx1 : ρ1 x = 1 := fr_tg f1 hx.1 hρ (by decide)
  have r1 : ∀ q, cr T1 q x = cr S q x := fun q => fr_cr f1 hx (by rw [hρ]; decide)
  have i1 : ∀ q, ci T1 q x = ci S q x := fun q => fr_ci f1 hx (by rw [hρ]; decide)
  have gl1 := gLg_fr f1 (by decide) gl
  have gp1 := gTx_fr f1 (by decide) gp
  have gd1 := gDr_fr f1 (by decide) (by decide) (by decide) gd
  have ep1 : cr T1 96 L = some p := (fr_cr f1 gl.1.1 (by rw [gl.2.2 L (Or.inl rfl)]; decide)).trans ep
  refine ⟨x1, L, (r1 _).trans e1, gl1.1.1, fun S7 e7 => ?_⟩
  obtain ⟨gl7, f7⟩ := gLg_add gl1 e7
  have x7 := fr_A f7 x1
  have r7 : ∀ q, cr S7 q x = cr S q x := fun q => (fr_cr f7 x1 (by rw [ρx1]; decide)).trans (r1 q)
  have gd7 := gDr_fr f7 (by decide) (by decide) (by decide) gd1
  obtain ⟨D1, D2, D3, D4, t0, t1, u0, u1, gt0, gt1⟩ := gd7
  refine ⟨x7, D, (r7 _).trans e2, D1, fun S9 e9 => ?_⟩
  have f9 : fr S7 S9 ρ1 ρ1 [4] := ⟨e9 ▸ sub_Si (F := fun a => ρ1 a ∈ [4]) (by rw [D2]; decide), fun _ _ _ => rfl⟩
  have x9 := fr_A f9 x7
  have r9 : ∀ q, cr S9 q x = cr S q x := fun q => (fr_cr f9 x7 (by rw [ρx1]; decide)).trans (r7 q)
  have D9 := fr_A f9 D1
  have gl9 := gLg_fr f9 (by decide) gl7
  have gt0' := gTx_fr f9 (by decide) gt0
  have gt1' := gTx_fr f9 (by decide) gt1
  have d9 : ∀ q, q ≠ 0 → ci S9 q D = ci S7 q D := fun q hq => hi_Si_q e9 hq rfl
  have dr9 : ∀ q, cr S9 q D = cr S7 q D := fun q => hr_Si e9 rfl
  refine ⟨x9, L, (r9 _).trans e1, x9, D, (r9 _).trans e2, D9, ⟨by omega, by omega⟩, q_textOf (k := 0) D9 (by decide) ((dr9 3).trans u0) ⟨gl9.1.1, 222, 1776, by omega, by omega, ?_⟩⟩
  refine g_tok gl9 gt0' (by decide) (Nat.le_refl _) (Nat.le_refl _) (fun S15 m0 f15 gl15 li15 lr15 gt0k tk0 => ?_)
  obtain ⟨ρ2, hρ2⟩ : ∃ r, r = rtg S9 id ρ1 5 := ⟨_, rfl⟩
  rw [← hρ2] at f15 gl15 gt0k
  have x15 := fr_A f15 x9
  have ρx2 : ρ2 x = 1 := fr_tg f15 x9.1 ρx1 (by decide)
  have r15 : ∀ q, cr S15 q x = cr S q x := fun q => (fr_cr f15 x9 (by rw [ρx1]; decide)).trans (r9 q)
  have D15 := fr_A f15 D9
  have ρD2 : ρ2 D = 4 := fr_tg f15 D9.1 D2 (by decide)
  have dr15 : ∀ q, cr S15 q D = cr S7 q D := fun q => (fr_cr f15 D9 (by rw [D2]; decide)).trans (dr9 q)
  have gt1k := gTx_fr f15 (by decide) gt1'
  refine ⟨x15, L, (r15 _).trans e1, x15, D, (r15 _).trans e2, D15, ⟨by omega, by omega⟩, q_textOf (k := 1) D15 (by decide) ((dr15 4).trans u1) ⟨gl15.1.1, 222, 1776, by omega, by omega, ?_⟩⟩
  refine g_tok gl15 gt1k (by decide) (Nat.le_refl _) (Nat.le_refl _) (fun S21 m1 f21 gl21 li21 lr21 gt1z tk1 => ?_)
  obtain ⟨ρ3, hρ3⟩ : ∃ r, r = rtg S15 id ρ2 6 := ⟨_, rfl⟩
  rw [← hρ3] at f21 gl21 gt1z
  have x21 := fr_A f21 x15
  have ρx3 : ρ3 x = 1 := fr_tg f21 x15.1 ρx2 (by decide)
  have r21 : ∀ q, cr S21 q x = cr S q x := fun q => (fr_cr f21 x15 (by rw [ρx2]; decide)).trans (r15 q)
  have i21 : ∀ q, ci S21 q x = ci S q x := fun q => (fr_ci f21 x15 (by rw [ρx2]; decide)).trans ((fr_ci f15 x9 (by rw [ρx1]; decide)).trans ((fr_ci f9 x7 (by rw [ρx1]; decide)).trans ((fr_ci f7 x1 (by rw [ρx1]; decide)).trans (i1 q))))
  have D21 := fr_A f21 D15
  have ρD3 : ρ3 D = 4 := fr_tg f21 D15.1 ρD2 (by decide)
  have dr21 : ∀ q, cr S21 q D = cr S7 q D := fun q => (fr_cr f21 D15 (by rw [ρD2]; decide)).trans (dr15 q)
  have di21 : ∀ q, ci S21 q D = ci S9 q D := fun q => (fr_ci f21 D15 (by rw [ρD2]; decide)).trans (fr_ci f15 D9 (by rw [D2]; decide))
  have gt0z := gTx_fr f21 (by decide) gt0k
  have w2 : ∀ {M : List Nat}, (∀ τ, τ ∈ M → τ ∈ [2, 4, 5, 6, 7, 10]) → ∀ {S T : cS} {r r' : Nat → Nat}, fr S T r r' M → fr S T r r' [2, 4, 5, 6, 7, 10] := fun hM _ _ _ _ f => fr_wk f hM
  have wM : ∀ (M : List Nat), (M.all (fun τ => [2, 4, 5, 6, 7, 10].contains τ)) = true → ∀ τ, τ ∈ M → τ ∈ [2, 4, 5, 6, 7, 10] := fun M hM τ hτ => by
    have := List.all_eq_true.mp hM τ hτ
    exact List.contains_iff_mem.mp this
  have trM : ∀ {S T U : cS} {r r' r'' : Nat → Nat}, fr S T r r' [2, 4, 5, 6, 7, 10] → fr T U r' r'' [2, 4, 5, 6, 7, 10] → (∀ a, a ∈ cL S → r a ∉ [2, 4, 5, 6, 7, 10] → True) → fr S U r r'' [2, 4, 5, 6, 7, 10] := fun {S T U r r' r''} h1 h2 _ => by
    refine fr_tr h1 h2 (fun a ha hin => ?_)
    by_cases c : r a ∈ [2, 4, 5, 6, 7, 10]
    · exact c
    · rw [h1.2 a ha c] at hin; exact hin
  have F21 : fr S S21 ρ ρ3 [2, 4, 5, 6, 7, 10] := trM (trM (trM (trM (w2 (wM _ rfl) f1) (w2 (wM _ rfl) f7) (fun _ _ _ => trivial)) (w2 (wM _ rfl) f9) (fun _ _ _ => trivial)) (w2 (wM _ rfl) f15) (fun _ _ _ => trivial)) (w2 (wM _ rfl) f21) (fun _ _ _ => trivial)
  have fB : fr T1 S21 ρ1 ρ3 [2, 4, 5, 6] := by
    have w : ∀ (M : List Nat), (M.all (fun τ => [2, 4, 5, 6].contains τ)) = true → ∀ τ, τ ∈ M → τ ∈ [2, 4, 5, 6] := fun M hM τ hτ => List.contains_iff_mem.mp (List.all_eq_true.mp hM τ hτ)
    have tr : ∀ {S T U : cS} {r r' r'' : Nat → Nat}, fr S T r r' [2, 4, 5, 6] → fr T U r' r'' [2, 4, 5, 6] → fr S U r r'' [2, 4, 5, 6] := fun {S T U r r' r''} h1 h2 => by
      refine fr_tr h1 h2 (fun a ha hin => ?_)
      by_cases c : r a ∈ [2, 4, 5, 6]
      · exact c
      · rw [h1.2 a ha c] at hin; exact hin
    exact tr (tr (tr (fr_wk f7 (w _ rfl)) (fr_wk f9 (w _ rfl))) (fr_wk f15 (w _ rfl))) (fr_wk f21 (w _ rfl))
  have gb21 := gBf_fr fB (by decide) (by decide) ((r21 354).trans (r1 354).symm) gb1
  have gs1 := gSegs_fr (fr_fk f1 (by decide)) (by decide) gs
  have gs21 := gSegs_fr (fr_fk fB (by decide)) (by decide) gs1
  have gv21 := gVw_fr fB (by decide) (by decide) gs21 hid gv1
  obtain ⟨bl, bs, bm, y1, y2, y3, y4, y5, y6, y7⟩ := id gb21
  have hlb : bs.length ≤ 11 := by omega
  have hgw : bs.length = bm → gwL bm bm ≤ 15 ∧ (gwL bm bm = 10 ∨ gwL bm bm = 15) := fun e => by
    unfold gwL
    rw [if_pos rfl]
    rcases y4 with h0 | h0 | h0
    · rw [if_pos h0]; exact ⟨by decide, Or.inl rfl⟩
    · rw [if_neg (by omega), h0]; exact ⟨by decide, Or.inr rfl⟩
    · omega
  have dp21 : dpO dp S21 := dp_O
  refine ⟨x21, bl, y1, x21, D, (r21 _).trans e2, y2.1, 1, 15, by omega, by omega, ?_⟩
  refine q_ladd dp21 y2 (by omega) D21 (by split <;> omega) (by split <;> omega) (fun S26 v26 t26 => ⟨⟨by omega, by omega⟩, fun q27 hq27 S28 e28 => ⟨8, 90, by omega, by omega, ?_⟩⟩)
  have s26 : cSub S21 S26 (fun z => ρ3 z = 7) := sub_wk v26.1 (fun z _ hz => y3 z hz)
  obtain ⟨ρ4, hρ4⟩ : ∃ r, r = rtg S21 id ρ3 7 := ⟨_, rfl⟩
  have f26 : fr S21 S26 ρ3 ρ4 [7] := ⟨sub_wk s26 (fun z _ hz => by rw [hz]; decide), fun a ha _ => by rw [hρ4]; exact rtg_o ha⟩
  -- the draft's cells are frozen
  obtain ⟨ρ5, hρ5⟩ : ∃ r, r = rtg S26 (fun τ => if τ = 4 ∨ τ = 5 ∨ τ = 6 then 8 else τ) ρ4 4 := ⟨_, rfl⟩
  have f28 : fr S26 S28 ρ4 ρ5 [4, 5, 6] := ⟨e28 ▸ sub_N hq27, fun a ha hm => by
    rw [hρ5]
    exact (rtg_o ha).trans (if_neg (fun z => hm (by rcases z with z | z | z <;> rw [z] <;> decide)))⟩
  have q28 : cA S28 q27 0 := ⟨hm_No e28, hk_No e28⟩
  have ρq : ρ5 q27 = 4 := by rw [hρ5]; exact rtg_n hq27
  refine q_docInit (P0 := P0') (P1 := P1') q28 ρq (Nat.le_refl _) (Nat.le_refl _) (fun S31 ρ6 s31 o31 gd31 => ?_)
  have f31 : fr S28 S31 ρ5 ρ6 [4] := ⟨sub_wk s31 (fun z _ hz => by rw [hz, ρq]; decide), fun a ha _ => o31 a ha⟩
  have tr7 : ∀ {S T U : cS} {r r' r'' : Nat → Nat}, fr S T r r' [4, 5, 6, 7] → fr T U r' r'' [4, 5, 6, 7] → fr S U r r'' [4, 5, 6, 7] := fun {S T U r r' r''} h1 h2 => by
    refine fr_tr h1 h2 (fun a ha hin => ?_)
    by_cases c : r a ∈ [4, 5, 6, 7]
    · exact c
    · rw [h1.2 a ha c] at hin; exact hin
  have w7 : ∀ (M : List Nat), (M.all (fun τ => [4, 5, 6, 7].contains τ)) = true → ∀ τ, τ ∈ M → τ ∈ [4, 5, 6, 7] := fun M hM τ hτ => List.contains_iff_mem.mp (List.all_eq_true.mp hM τ hτ)
  have F31 : fr S21 S31 ρ3 ρ6 [4, 5, 6, 7] := tr7 (tr7 (fr_wk f26 (w7 _ rfl)) (fr_wk f28 (w7 _ rfl))) (fr_wk f31 (w7 _ rfl))
  have x31 := fr_A F31 x21
  have ρx6 : ρ6 x = 1 := fr_tg F31 x21.1 ρx3 (by decide)
  have r31 : ∀ q, cr S31 q x = cr S q x := fun q => (fr_cr F31 x21 (by rw [ρx3]; decide)).trans (r21 q)
  have i31 : ∀ q, ci S31 q x = ci S q x := fun q => (fr_ci F31 x21 (by rw [ρx3]; decide)).trans (i21 q)
  refine ⟨x31, fun S32 e32 => ?_⟩
  have f32 : fr S31 S32 ρ6 ρ6 [1] := ⟨e32 ▸ sub_Sr (F := fun a => ρ6 a ∈ [1]) (by rw [ρx6]; decide), fun _ _ _ => rfl⟩
  have x32 := fr_A f32 x31
  have r32 : ∀ q, q ≠ 353 → cr S32 q x = cr S q x := fun q hq => (hr_Sr_q e32 hq rfl).trans (r31 q)
  have i32 : ∀ q, ci S32 q x = ci S q x := fun q => (hi_Sr e32 rfl).trans (i31 q)
  have bl32 : cr S32 354 x = some bl := (r32 354 (by decide)).trans ((r21 354).symm.trans y1)
  -- the buffer with the new document
  have t31 : lsT S31 dp bl 0 (bs ++ [D]) (gwL bm bs.length) := by
    have nF : ∀ z, lsF S26 dp bl z → ¬ (ρ4 z ∈ [4, 5, 6]) := fun z hz => by
      have : ρ4 z = 7 := by
        rw [hρ4]
        rcases v26.2 z hz with w | w
        · exact (rtg_o (lsF_in y2 w)).trans (y3 z w)
        · exact rtg_n w
      rw [this]; decide
    have t28 := lsT_sub f28.1 t26 nF
    exact lsT_sub s31 t28 (fun z hz e => by
      have hz' : lsF S26 dp bl z := by
        unfold lsF at hz ⊢
        rw [sub_cr f28.1 t26.1 (nF bl (Or.inl rfl))] at hz; exact hz
      exact hq27 (e ▸ lsF_in t26 hz'))
  have tags31 : ∀ z, lsF S31 dp bl z → ρ6 z = 7 := fun z hz => by
    have nF : ∀ z, lsF S26 dp bl z → ρ4 z = 7 := fun z hz => by
      rw [hρ4]
      rcases v26.2 z hz with w | w
      · exact (rtg_o (lsF_in y2 w)).trans (y3 z w)
      · exact rtg_n w
    have e1 : cr S28 385 bl = cr S26 385 bl := sub_cr f28.1 t26.1 (by rw [nF bl (Or.inl rfl)]; decide)
    have bA28 := fr_A f28 t26.1
    have e2 : cr S31 385 bl = cr S28 385 bl := sub_cr s31 bA28 (fun e => hq27 (e ▸ t26.1.1))
    have hz' : lsF S26 dp bl z := by
      unfold lsF at hz ⊢
      rw [e2, e1] at hz; exact hz
    have zin := lsF_in t26 hz'
    rw [o31 z (f28.1 z zin).1.1, hρ5]
    exact (rtg_o zin).trans (by rw [nF z hz']; rfl)
  have fz : gFz S31 ρ6 D (mkD ks A yn F G k a b n0 P0 n1 P1) := by
    have go : ∀ z, z ∈ cL S21 → (ρ3 z = 4 ∨ ρ3 z = 5 ∨ ρ3 z = 6) → ρ6 z = 8 := fun z hz hτ => by
      have h26 := (f26.1 z hz).1.1
      rw [o31 z (f28.1 z h26).1.1, hρ5]
      have e : ρ4 z = ρ3 z := by rw [hρ4]; exact rtg_o hz
      exact (rtg_o h26).trans (by rw [e]; exact if_pos hτ)
    have sD : cSub S21 S31 (fun z => ρ3 z = 7) := by
      refine sub_tr (sub_tr s26 (sub_N hq27 (k := 0) (F := fun _ => False)) (fun _ _ z => z.elim)) (e28 ▸ s31) (fun z hz e => ?_)
      exact absurd (f26.1 z hz).1.1 (fun w => hq27 (e ▸ w))
    have nD : ¬ ρ3 D = 7 := by rw [ρD3]; decide
    refine ⟨sub_A1 sD D21, go D D21.1 (Or.inl ρD3), (sub_ci sD D21 nD).trans ((di21 0).trans (hi_Si_s e9)), (sub_ci sD D21 nD).trans ((di21 1).trans ((d9 1 (by decide)).trans D3)), (sub_ci sD D21 nD).trans ((di21 2).trans ((d9 2 (by decide)).trans D4)), fun fl hfl => ?_⟩
    have text : ∀ (t m' τ : Nat) (l : List (Int64 × Nat)), tTk S21 t m' l → (∀ z, tF S21 t z → ρ3 z = τ) → (τ = 5 ∨ τ = 6) → tTk S31 t m' l ∧ ∀ z, tF S31 t z → ρ6 z = 8 := fun t m' τ l h1 h2 h3 => by
      have nF : ∀ z, tF S21 t z → ¬ ρ3 z = 7 := fun z hz => by rw [h2 z hz]; omega
      refine ⟨tTk_sub sD h1 nF, fun z hz => ?_⟩
      have hz' := tF_sub sD h1 nF hz
      exact go z (tF_in h1 hz') (by rw [h2 z hz']; exact Or.inr h3)
    rcases (show fl = 0 ∨ fl = 1 by omega) with rfl | rfl
    · have tk0' := tTk_sub f21.1 tk0 (fun z hz => by rw [gt0k.2.2.2.1 z hz]; decide)
      obtain ⟨z1, z2⟩ := text t0 m0 5 _ tk0' gt0z.2.2.2.1 (Or.inl rfl)
      exact ⟨t0, m0, (sub_cr sD D21 nD).trans ((dr21 3).trans u0), z1, z2⟩
    · obtain ⟨z1, z2⟩ := text t1 m1 6 _ tk1 gt1z.2.2.2.1 (Or.inr rfl)
      exact ⟨t1, m1, (sub_cr sD D21 nD).trans ((dr21 4).trans u1), z1, z2⟩
  have hok : okD (mkD ks A yn F G k a b n0 P0 n1 P1) := by
    have c0 := wdC_le P0 n0
    have c1 := wdC_le P1 n1
    have l0 := gt0.1.2.1
    have l1 := gt1.1.2.1
    have hy := gl.1.2.2.1.2
    refine ⟨hk, by show a < 10; omega, by show b < 1000; omega, fun fl => ?_⟩
    unfold dT
    split
    · exact tk_ok (by omega) hy
    · exact tk_ok (by omega) hy
  have t32 : lsT S32 dp bl 0 (bs ++ [D]) (gwL bm bs.length) := lsT_sub f32.1 t31 (fun z hz => by rw [tags31 z hz]; decide)
  refine ⟨x32, bl, bl32, t32.1, ⟨by omega, by omega⟩, q_lsize t32 ⟨⟨by omega, by omega⟩, ?_⟩⟩
  have e26 : (bs ++ [D]).length = B1.length + 1 := by rw [List.length_append, y5]; rfl
  rw [e26]
  have gs31 := gSegs_fr (fr_fk F31 (by decide)) (by decide) gs21
  have gv31 := gVw_fr F31 (by decide) (by decide) gs31 hid gv21
  have gs32 := gSegs_fr (fr_fk f32 (by decide)) (by decide) gs31
  refine h S32 ρ6 B1 lv1 b1 ?_ rel ⟨x32, ρx6, L, q27, p, (r32 _ (by decide)).trans e1, hr_Sr_s e32, gLg_fr f32 (by decide) (gLg_fr F31 (by decide) gl21), ?_, gTx_fr f32 (by decide) (gTx_fr F31 (by decide) (gTx_fr f21 (by decide) (gTx_fr f15 (by decide) (gTx_fr f9 (by decide) (gTx_fr f7 (by decide) gp1))))), gDr_fr f32 (by decide) (by decide) (by decide) gd31⟩ ⟨bl, bs ++ [D], _, bl32, t32, fun z hz => ?_, ?_, by rw [List.length_append, List.length_append, y5]; rfl, by rw [List.length_append]; show B1.length + 1 ≤ 12; omega, fun i D' d' hi hd' => ?_⟩ (gVw_fr f32 (by decide) (by decide) gs32 hid gv31) i32 r32
  · -- the frame of all
    have sAll : fr S S31 ρ ρ6 [2, 4, 5, 6, 7, 10] := trM F21 (fr_wk F31 (wM _ rfl)) (fun _ _ _ => trivial)
    refine fr_tr (fr_wk sAll (N := [1, 2, 4, 5, 6, 7, 10]) (fun τ hτ => List.mem_cons_of_mem _ hτ)) f32 (fun a ha hin => ?_)
    by_cases c : ρ a ∈ [2, 4, 5, 6, 7, 10]
    · exact List.mem_cons_of_mem _ c
    · rw [sAll.2 a ha c] at hin
      rw [List.mem_singleton.mp hin]; decide
  · have q1 : cr S21 96 L = some p := (lr21 _).trans ((lr15 _).trans ((fr_cr f9 gl7.1.1 (by rw [gl7.2.2 L (Or.inl rfl)]; decide)).trans ((hr_Si e7 rfl).trans ep1)))
    exact (fr_cr f32 (fr_A F31 gl21.1.1) (by rw [(gLg_fr F31 (by decide) gl21).2.2 L (Or.inl rfl)]; decide)).trans ((fr_cr F31 gl21.1.1 (by rw [gl21.2.2 L (Or.inl rfl)]; decide)).trans q1)
  · have hz' : lsF S31 dp bl z := by
      unfold lsF at hz ⊢
      rw [show cr S32 385 bl = cr S31 385 bl from fr_cr f32 t31.1 (by rw [tags31 bl (Or.inl rfl)]; decide)] at hz; exact hz
    exact tags31 z hz'
  · unfold gwL
    split
    · rename_i e
      have := hgw e
      unfold gwL at this
      rw [if_pos rfl] at this
      exact Or.inr this.2
    · exact y4
  · rcases app1_get.mp hi with w | ⟨w1, w2⟩
    · rcases app1_get.mp hd' with u | ⟨u1, u2⟩
      · exact ⟨gFz_fr f32 (by decide) (gFz_fr F31 (by decide) (y7 i D' d' w u).1), (y7 i D' d' w u).2⟩
      · have := get_lt w; omega
    · rcases app1_get.mp hd' with u | ⟨u1, u2⟩
      · have := get_lt u; omega
      · rw [w2, u2]
        exact ⟨gFz_fr f32 (by decide) fz, hok⟩
end AE
