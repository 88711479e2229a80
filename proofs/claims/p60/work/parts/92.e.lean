/-! the law's find -/
def lHt (S : cS) (f m : Nat) (H : List (Nat × Nat)) : Prop := cI S m 14 = nI H.length ∧ H.length ≤ 20 ∧ ∀ i x, H[i]? = some x → cI S f i = nI x.1 ∧ cI S f (20 + i) = nI x.2 ∧ x.2 < 2 ^ 31
def lCa (S : cS) (h m : Nat) (R : List (Nat × Nat)) : Prop := cI S m 13 = nI R.length ∧ R.length ≤ 8 ∧ ∀ i y, R[i]? = some y → cI S h i = nI (64 * y.1 + y.2) ∧ y.1 < 9 ∧ y.2 < 30
/-- what a document of a segment is held as -/
def lhN (E : Nat → Nat) (sl : Nat → List Nat) (v : Vw) (y n i : Nat) : Option (Nat × Nat) := match (sl n)[i]? with
  | some a => if v.2 n i && decide (0 < rkN E a y) then some (a % 16, rkN E a y) else none
  | none => none
/-- this row is as it was but at these places -/
def rO (S T : cS) (m : Nat) (K : List Nat) : Prop := ∀ k, k ∉ K → cI T m k = cI S m k
theorem rO_tr {S T U : cS} {m : Nat} {K J : List Nat} (h1 : rO S T m K) (h2 : rO T U m J) (h : ∀ k, k ∈ J → k ∈ K) : rO S U m K := fun k hk => (h2 k (fun z => hk (h k z))).trans (h1 k hk)
theorem rO_rf {S : cS} {m : Nat} {K : List Nat} : rO S S m K := fun _ _ => rfl
theorem rO_ne {S T : cS} {m : Nat} {A K : List Nat} (h : lwT S T A) (hm : m ∉ A) : rO S T m K := fun k _ => by rw [lw_I h hm]
theorem rO_SI {S : cS} {m k : Nat} {x : Int32} {K : List Nat} (hk : k ∈ K) : rO S (cSI S m k x) m K := fun j hj => cSI_o (fun e => hj (e ▸ hk))
theorem cI_SI_ne {S : cS} {b k c : Nat} {x : Int32} (h : c ≠ b) : cI (cSI S b k x) c = cI S c := mU_n h
section LFI
variable {S T : cS} {dp mc ms cd dd r s z q h f m e dn made y mo : Nat} {sl : Nat → List Nat} {v : Vw} {E : Nat → Nat} {H : List (Nat × Nat)} {R : List (Nat × Nat)}
theorem lHt_fr {A K : List Nat} (w : lwT S T A) (hf : f ∉ A) (hm : rO S T m K) (h14 : 14 ∉ K) (g : lHt S f m H) : lHt T f m H := by
  unfold lHt
  rw [lw_I w hf, hm 14 h14]
  exact g
theorem lCa_fr {A K : List Nat} (w : lwT S T A) (hh : h ∉ A) (hm : rO S T m K) (h13 : 13 ∉ K) (g : lCa S h m R) : lCa T h m R := by
  unfold lCa
  rw [lw_I w hh, hm 13 h13]
  exact g
/-- what a search reads and writes -/
def lFc (S : cS) (r s z q h f m e dn made : Nat) (sl : Nat → List Nat) (v : Vw) (E : Nat → Nat) : Prop := (lSeg S r s z dn made sl ∧ lVw S q made sl v ∧ lE S e E) ∧ (cA S h 14 ∧ cn S h = 8) ∧ (cA S f 14 ∧ cn S f = 40) ∧ (cA S m 14 ∧ cn S m = 17)
def lFd (r s z q h f m e : Nat) : Prop := (∀ a, a ∈ [r, s, z, q, e] → a ∉ [h, f, m]) ∧ h ≠ f ∧ h ≠ m ∧ f ≠ m
theorem lFc_fr (d : lFd r s z q h f m e) (w : lwT S T [h, f, m]) (g : lFc S r s z q h f m e dn made sl v E) : lFc T r s z q h f m e dn made sl v E := by
  obtain ⟨⟨g1, g2, g3⟩, g4, g5, g6⟩ := g
  refine ⟨⟨lw_seg w (d.1 r (by simp)) (d.1 s (by simp)) (d.1 z (by simp)) g1, lw_vw w (d.1 q (by simp)) g2, lw_row w g3.1, ?_⟩, lw_row w g4, lw_row w g5, lw_row w g6⟩
  rw [lw_I w (d.1 e (by simp))]
  exact g3.2
theorem h_fm (d : lFd r s z q h f m e) : h ∉ [f, m] := by
  obtain ⟨-, d1, d2, d3⟩ := d
  simp [d1, d2]
theorem f_hm (d : lFd r s z q h f m e) : f ∉ [h, m] := by
  obtain ⟨-, d1, d2, d3⟩ := d
  simp [d3]; exact fun e => d1 e.symm
theorem lfm3 {A : List Nat} (d : lFd r s z q h f m e) (w : lwT S T A) (hh : ∀ a, a ∈ A → a ∈ [h, f, m]) : lwT S T [h, f, m] := lw_wk w hh
theorem q_hold418 {Q : cS → Prop} {R36 : Nat → Nat → Nat → Nat → Nat → Nat → Nat → Int32 → Int32 → Nat → Int32 → Nat → Nat → cS → Prop} {R209 : Nat → Nat → Nat → Nat → Nat → Nat → Nat → Int32 → Int32 → Nat → Int32 → Int32 → Int32 → Nat → Nat → cS → Prop} {R309 : Nat → Nat → Nat → Nat → Nat → Nat → Nat → Int32 → Int32 → Nat → Int32 → Int32 → Int32 → Int32 → Int32 → Int32 → Nat → Nat → cS → Prop} {L : List (Nat × Nat)} {a rk j : Nat} {x10 x11 x13 x14 x15 : Int32} (d : lFd r s z q h f m e) (g : lFc S r s z q h f m e dn made sl v E) (ha : a < 2 ^ 63) (hr : rk < 2 ^ 31) (hL : L.length < mo) (hmo : mo ≤ 20) (h14 : cI S m 14 = nI H.length) (hH : H.length ≤ 20) (hn : L.length + 1 = H.length + if mo ≤ H.length then 0 else 1) (hR : ∀ i x, L[i]? = some x → cI S f i = nI x.1 ∧ cI S f (20 + i) = nI x.2 ∧ x.2 < 2 ^ 31) (hj : j < 2 ^ 30) (hk : ∀ T, lwT S T [f, m] → rO S T m [14] → lHt T f m (inH L (a % 16, rk)) → R309 r s z q h f m (nI y) (nI mo) e x10 x11 x13 x14 x15 (nI (j + 1)) cd dd T) : k_L_find_418L Q dp mc ms R36 R209 R309 r s z q h f m (nI y) (nI mo) e x10 x11 x13 x14 x15 (nI j) (lN a) (nI rk) (nI L.length) cd dd S := by
  obtain ⟨d0, d1, d2, d3⟩ := id d
  obtain ⟨-, -, ⟨f1, f2⟩, m1, m2⟩ := id g
  have mf : f ∈ [f, m] := by simp
  have mm : m ∈ [f, m] := by simp
  unfold k_L_find_418L
  refine lfp_ind (fun w => ∃ p S2, p ≤ L.length ∧ psH L rk p = psH L rk L.length ∧ lwT S S2 [f, m] ∧ cI S2 m = cI S m ∧ (∀ i x, L[i]? = some x → (i < p → cI S2 f i = nI x.1 ∧ cI S2 f (20 + i) = nI x.2) ∧ (p ≤ i → cI S2 f (i + 1) = nI x.1 ∧ cI S2 f (20 + (i + 1)) = nI x.2)) ∧ w = (r, s, z, q, h, f, m, nI y, nI mo, e, x10, x11, x13, x14, x15, nI j, lN a, nI rk, nI p, cd, dd, S2)) (fun w => w.2.2.2.2.2.2.2.2.2.2.2.2.2.2.2.2.2.2.1.toNatClampNeg) ?_ ⟨L.length, S, Nat.le_refl _, rfl, lw_rf, rfl, fun i x hx => ⟨fun _ => ⟨(hR i x hx).1, (hR i x hx).2.1⟩, fun c => absurd (get_lt hx) (by omega)⟩, rfl⟩
  rintro P _ ⟨p, S2, hp, hps, a1, a3, a2, rfl⟩ ih
  show k_L_find_418 Q dp mc ms R36 R209 R309 _ r s z q h f m (nI y) (nI mo) e x10 x11 x13 x14 x15 (nI j) (lN a) (nI rk) (nI p) cd dd S2
  obtain ⟨b1, b2⟩ := lw_row a1 ⟨f1, f2⟩
  obtain ⟨c1, c2⟩ := lw_row a1 ⟨m1, m2⟩
  have stop : psH L rk p = p → k_L_find_474 Q dp mc ms R36 R209 R309 r s z q h f m (nI y) (nI mo) e x10 x11 x13 x14 x15 (nI j) (lN a) (nI rk) (nI p) cd dd S2 := by
    intro hpp
    have ei : inH L (a % 16, rk) = L.take p ++ (a % 16, rk) :: L.drop p := by
      unfold inH
      rw [show psH L (a % 16, rk).2 L.length = p by rw [← hpp, hps]]
    unfold k_L_find_474
    rw [nI_clamp (show p < 2 ^ 31 by omega), nI_add, nI_clamp (show 20 + p < 2 ^ 31 by omega), nI_clamp (show 14 < 2 ^ 31 by decide), lN_and15, lN_toI]
    refine ⟨cX_mk b1 b2 (by decide) (by omega : p < 40) rfl, ?_⟩
    intro S3 e3
    have w3 : lwT S2 S3 [f, m] := by rw [e3]; exact lw_SI mf
    obtain ⟨b3, b4⟩ := lw_row w3 ⟨b1, b2⟩
    obtain ⟨c3, c4⟩ := lw_row w3 ⟨c1, c2⟩
    refine ⟨cX_mk b3 b4 (by decide) (by omega : 20 + p < 40) rfl, ?_⟩
    intro S4 e4
    have w4 : lwT S3 S4 [f, m] := by rw [e4]; exact lw_SI mf
    obtain ⟨c5, c6⟩ := lw_row w4 ⟨c3, c4⟩
    have m3 : cI S3 m = cI S m := by rw [e3, cI_SI_ne (fun e => d3 e.symm)]; exact a3
    have m4 : cI S4 m = cI S m := by rw [e4, cI_SI_ne (fun e => d3 e.symm)]; exact m3
    have x14' : cX S4 m 14 (nI 14) := cX_mk c5 c6 (by decide) (by decide : 14 < 17) rfl
    rw [m4, h14]
    refine ⟨x14', x14', ?_⟩
    have fin : ∀ S5, S5 = cSI S4 m 14 (nI (L.length + 1)) → k_L_find_519 Q dp mc ms R36 R209 R309 r s z q h f m (nI y) (nI mo) e x10 x11 x13 x14 x15 (nI j) cd dd S5 := by
      intro S5 e5
      have w5 : lwT S4 S5 [f, m] := by rw [e5]; exact lw_SI mm
      unfold k_L_find_519
      intro x16 e16
      rw [e16, nI_add]
      refine hk S5 (lw_tr a1 (lw_tr w3 (lw_tr w4 w5 (fun _ c => c)) (fun _ c => c)) (fun _ c => c)) (fun k hk => ?_) ⟨?_, by rw [ei, insA_len hp]; omega, fun i x hx => ?_⟩
      · rw [e5, cSI_o (fun e => hk (by simp [e])), m4]
      · rw [e5, cSI_s, ei, insA_len hp]
      · rw [ei] at hx
        have q1 : ∀ i, cI S5 f i = if i = 20 + p then nI rk else if i = p then nI (a % 16) else cI S2 f i := fun i => by
          rw [e5, cI_SI_ne d3, e4]
          by_cases k1 : i = 20 + p
          · rw [k1, cSI_s, if_pos rfl]
          · rw [cSI_o k1, if_neg k1, e3]
            by_cases k2 : i = p
            · rw [k2, cSI_s, if_pos rfl]
            · rw [cSI_o k2, if_neg k2]
        rw [q1, q1]
        rcases (insA_get hp).mp hx with ⟨c, hx⟩ | ⟨rfl, rfl⟩ | ⟨c, hx⟩
        · rw [if_neg (by omega), if_neg (by omega), if_neg (by omega), if_neg (by omega)]
          have := (a2 i x hx).1 c
          exact ⟨this.1, this.2, (hR i x hx).2.2⟩
        · rw [if_neg (by omega), if_pos rfl, if_pos rfl]; exact ⟨rfl, rfl, hr⟩
        · have hil := get_lt hx
          rw [if_neg (by omega), if_neg (by omega), if_neg (by omega), if_neg (by omega)]
          have := (a2 (i - 1) x hx).2 (by omega)
          rw [show i - 1 + 1 = i by omega] at this
          exact ⟨this.1, this.2, (hR _ x hx).2.2⟩
    refine pk_le mo H.length (fun c => ?_) (fun c => ?_)
    · unfold k_L_find_517
      rw [nI_clamp (by decide), nI_add]
      rw [if_pos c] at hn
      refine ⟨x14', fun S5 e5 => fin S5 (by rw [e5, hn])⟩
    · unfold k_L_find_517
      rw [nI_clamp (by decide), nI_add]
      rw [if_neg (by omega)] at hn
      refine ⟨x14', fun S5 e5 => fin S5 (by rw [e5, hn])⟩
  unfold k_L_find_418
  refine pk_le p 0 (fun z => stop ?_) (fun z => ?_)
  · rw [show p = 0 by omega]; rfl
  obtain ⟨p', rfl⟩ : ∃ p', p = p' + 1 := ⟨p - 1, by omega⟩
  rw [nI_add, pk_sub (show 1 ≤ 20 + (p' + 1) by omega), show 20 + (p' + 1) - 1 = 20 + p' by omega, pk_sub (show 1 ≤ p' + 1 by omega), show p' + 1 - 1 = p' by omega, nI_clamp (show p' < 2 ^ 31 by omega), nI_clamp (show p' + 1 < 2 ^ 31 by omega), nI_clamp (show 20 + p' < 2 ^ 31 by omega), nI_clamp (show 20 + (p' + 1) < 2 ^ 31 by omega)]
  obtain ⟨x, hx⟩ := get_ex (l := L) (k := p') (by omega)
  have e0 := (a2 p' x hx).1 (Nat.lt_succ_self _)
  have x31 := (hR p' x hx).2.2
  have gD : (L.getD p' (0, 0)).2 = x.2 := by rw [List.getD_eq_getElem?_getD, hx]; rfl
  rw [e0.2]
  refine ⟨cX_mk b1 b2 (by decide) (by omega : 20 + p' < 40) rfl, pk_le rk x.2 (fun z2 => stop ?_) (fun z2 => ⟨cX_mk b1 b2 (by decide) (by omega : p' < 40) rfl, cX_mk b1 b2 (by decide) (by omega : p' + 1 < 40) rfl, ?_⟩)⟩
  · rw [psH, gD, if_neg (by omega)]
  intro S4 e4
  have w4 : lwT S2 S4 [f, m] := by rw [e4]; exact lw_SI mf
  obtain ⟨b3, b4⟩ := lw_row w4 ⟨b1, b2⟩
  refine ⟨cX_mk b3 b4 (by decide) (by omega : 20 + p' < 40) rfl, cX_mk b3 b4 (by decide) (by omega : 20 + (p' + 1) < 40) rfl, ?_⟩
  intro S5 e5
  have w5 : lwT S4 S5 [f, m] := by rw [e5]; exact lw_SI mf
  have m4 : cI S4 m = cI S m := by rw [e4, cI_SI_ne (fun e => d3 e.symm)]; exact a3
  have m5 : cI S5 m = cI S m := by rw [e5, cI_SI_ne (fun e => d3 e.symm)]; exact m4
  have e9 : cI S4 f (20 + p') = nI x.2 := by rw [e4, cSI_o (by omega)]; exact e0.2
  rw [e9] at e5
  rw [e0.1] at e4
  rintro _ rfl
  rw [nI_dec p' (by omega)]
  have q1 : ∀ i, cI S5 f i = if i = 20 + (p' + 1) then nI x.2 else if i = p' + 1 then nI x.1 else cI S2 f i := fun i => by
    rw [e5]
    by_cases k1 : i = 20 + (p' + 1)
    · rw [k1, cSI_s, if_pos rfl]
    · rw [cSI_o k1, if_neg k1, e4]
      by_cases k2 : i = p' + 1
      · rw [k2, cSI_s, if_pos rfl]
      · rw [cSI_o k2, if_neg k2]
  refine ih _ ⟨p', S5, by omega, ?_, lw_tr a1 (lw_tr w4 w5 (fun _ c => c)) (fun _ c => c), m5, fun i y hy => ?_, rfl⟩ ?_
  · rw [← hps, psH, gD, if_pos z2]
  · have hil := get_lt hy
    refine ⟨fun c => ?_, fun c => ?_⟩
    · rw [q1, q1, if_neg (by omega), if_neg (by omega), if_neg (by omega), if_neg (by omega)]
      exact (a2 i y hy).1 (by omega)
    · rw [q1, q1]
      by_cases c2 : i = p'
      · rw [c2, if_neg (by omega), if_pos rfl, if_pos rfl]
        rw [c2, hx] at hy
        rw [Option.some.inj hy]
        exact ⟨rfl, rfl⟩
      · rw [if_neg (by omega), if_neg (by omega), if_neg (by omega), if_neg (by omega)]
        exact (a2 i y hy).2 (by omega)
  · show (nI p').toNatClampNeg < (nI (p' + 1)).toNatClampNeg
    rw [nI_clamp (by omega), nI_clamp (by omega)]
    omega
theorem q_hold362 {Q : cS → Prop} {R36 : Nat → Nat → Nat → Nat → Nat → Nat → Nat → Int32 → Int32 → Nat → Int32 → Nat → Nat → cS → Prop} {R209 : Nat → Nat → Nat → Nat → Nat → Nat → Nat → Int32 → Int32 → Nat → Int32 → Int32 → Int32 → Nat → Nat → cS → Prop} {R309 : Nat → Nat → Nat → Nat → Nat → Nat → Nat → Int32 → Int32 → Nat → Int32 → Int32 → Int32 → Int32 → Int32 → Int32 → Nat → Nat → cS → Prop} {a rk j : Nat} {x10 x11 x13 x14 x15 : Int32} (d : lFd r s z q h f m e) (g : lFc S r s z q h f m e dn made sl v E) (ha : a < 2 ^ 63) (hr : rk < 2 ^ 31) (hmo : 1 ≤ mo ∧ mo ≤ 20) (hl : H.length ≤ mo) (hH : lHt S f m H) (hj : j < 2 ^ 30) (hk : ∀ T, lwT S T [f, m] → rO S T m [14] → lHt T f m (if 0 < rk then hdL H mo (a % 16, rk) else H) → R309 r s z q h f m (nI y) (nI mo) e x10 x11 x13 x14 x15 (nI (j + 1)) cd dd T) : k_L_find_362 Q dp mc ms R36 R209 R309 r s z q h f m (nI y) (nI mo) e x10 x11 x13 x14 x15 (nI j) (lN a) (nI rk) cd dd S := by
  obtain ⟨-, -, ⟨f1, f2⟩, m1, m2⟩ := id g
  obtain ⟨h14, h20, hR⟩ := id hH
  have mX : cX S m 14 (nI 14) := cX_mk m1 m2 (by decide) (by decide : 14 < 17) rfl
  have nothing : (if 0 < rk then hdL H mo (a % 16, rk) else H) = H → k_L_find_519 Q dp mc ms R36 R209 R309 r s z q h f m (nI y) (nI mo) e x10 x11 x13 x14 x15 (nI j) cd dd S := fun eh => by
    rw [eh] at hk
    unfold k_L_find_519
    intro x ex
    rw [ex, nI_add]
    exact hk S lw_rf rO_rf hH
  unfold k_L_find_362
  by_cases c0 : rk = 0
  · refine ⟨fun _ => nothing (if_neg (by omega)), fun hc => absurd ((nI_le0 hr).mpr c0) hc⟩
  refine ⟨fun hc => absurd ((nI_le0 hr).mp hc) c0, fun _ => ⟨mX, ?_⟩⟩
  rw [if_pos (show 0 < rk by omega)] at hk nothing
  rw [nI_clamp (by decide), h14]
  have h394 : (H.length < mo ∨ lrH H < rk) → k_L_find_394 Q dp mc ms R36 R209 R309 r s z q h f m (nI y) (nI mo) e x10 x11 x13 x14 x15 (nI j) (lN a) (nI rk) cd dd S := fun hc => by
    unfold k_L_find_394
    rw [nI_clamp (by decide), h14]
    refine ⟨mX, pk_le mo H.length (fun z => ?_) (fun z => ⟨mX, ?_⟩)⟩
    · have dl : H.dropLast.length = H.length - 1 := List.length_dropLast
      unfold k_L_find_416
      rw [pk_sub hmo.1, show mo - 1 = H.dropLast.length by omega]
      refine q_hold418 (L := H.dropLast) d g ha hr (by omega) hmo.2 h14 h20 (by rw [if_pos z, dl]; omega) (fun i y hy => hR i y ?_) hj (fun T a1 a2 a3 => hk T a1 a2 ?_)
      · have hlt := get_lt hy
        rw [List.getElem?_dropLast] at hy
        split at hy
        · exact hy
        · exact nomatch hy
      · have : ¬ rk ≤ lrH H := by omega
        unfold lrH at this
        unfold hdL
        rw [if_neg (by omega), if_neg this]
        exact a3
    · unfold k_L_find_416
      refine q_hold418 (L := H) d g ha hr z hmo.2 h14 h20 (by rw [if_neg (by omega)]) hR hj (fun T a1 a2 a3 => hk T a1 a2 ?_)
      unfold hdL
      rw [if_pos z]
      exact a3
  refine pk_lt H.length mo (fun c => h394 (Or.inl c)) (fun c => ?_)
  obtain ⟨x, hx⟩ := get_ex (l := H) (k := H.length - 1) (by omega)
  have e0 := hR _ x hx
  have gD : lrH H = x.2 := by unfold lrH; rw [List.getD_eq_getElem?_getD, hx]; rfl
  rw [nI_add, pk_sub (show 1 ≤ 20 + mo by omega), show 20 + mo - 1 = 20 + (H.length - 1) by omega, nI_clamp (by omega), e0.2.1]
  refine ⟨cX_mk f1 f2 (by decide) (by omega : 20 + (H.length - 1) < 40) rfl, pk_le rk x.2 (fun z2 => nothing ?_) (fun z2 => h394 (Or.inr (by omega))) rfl rfl hr e0.2.2⟩
  have : rk ≤ lrH H := by omega
  unfold lrH at this
  unfold hdL
  rw [if_neg (by omega), if_pos this]
theorem lhN_lt {n i : Nat} {x : Nat × Nat} (hE : ∀ l, l < 9 → E l ≤ 102) (hy : y < 9) : (∀ a, rkN E a y < 2 ^ 31) := fun a => by
  have b0 := giN_le hE (a := a) (l := 0) (by decide)
  have b1 := giN_le hE (a := a) (l := 1) (by decide)
  have b7 := giN_le hE (a := a) (l := 7) (by decide)
  have b8 := giN_le hE (a := a) (l := 8) (by decide)
  have by' := giN_le hE (a := a) (l := y) hy
  unfold rkN
  repeat' split
  all_goals omega
theorem q_docs {Q : cS → Prop} {R36 : Nat → Nat → Nat → Nat → Nat → Nat → Nat → Int32 → Int32 → Nat → Int32 → Nat → Nat → cS → Prop} {R209 : Nat → Nat → Nat → Nat → Nat → Nat → Nat → Int32 → Int32 → Nat → Int32 → Int32 → Int32 → Nat → Nat → cS → Prop} {n b t : Nat} {x10 : Int32} (d : lFd r s z q h f m e) (g : lFc S r s z q h f m e dn made sl v E) (hy : y < 9) (hcd : cd ≤ mc ∧ dd ≤ ms) (hmo : 1 ≤ mo ∧ mo ≤ 20) (hl : H.length ≤ mo) (hH : lHt S f m H) (hn : n ∈ v.1) (hbt : b ≤ t) (ht : t ≤ (sl n).length) (hk : ∀ T, lwT S T [f, m] → rO S T m [14] → lHt T f m (hdN (lhN E sl v y n) mo H b (t - b)) → R209 r s z q h f m (nI y) (nI mo) e x10 (nI n) (nI b + nI 4) cd dd T) : k_L_find_309L Q dp mc ms R36 R209 r s z q h f m (nI y) (nI mo) e x10 (nI n) (nI b) (nI t) (nI 0) (nI b) cd dd S := by
  obtain ⟨⟨gs, gv, ge⟩, -⟩ := id g
  have hE : ∀ l, l < 9 → E l ≤ 102 := fun l hl => (ge.2 l hl).2
  obtain ⟨k0, hk0⟩ := List.mem_iff_getElem?.mp hn
  have nm := (gv.2.2.2.1 k0 n hk0).2
  have l10 := (gs.2.2 n nm).2.1
  have n30 : n < 30 := Nat.lt_of_lt_of_le nm gs.2.1.1
  unfold k_L_find_309L
  refine lfp_cnt (t - b) (fun i w => ∃ T, lwT S T [f, m] ∧ rO S T m [14] ∧ lHt T f m (hdN (lhN E sl v y n) mo H b i) ∧ w = (r, s, z, q, h, f, m, nI y, nI mo, e, x10, nI n, nI b, nI t, nI 0, nI (b + i), cd, dd, T)) ?_ ⟨S, lw_rf, rO_rf, hH, rfl⟩
  rintro P i _ hi ⟨T, a1, a2, a3, rfl⟩ ih
  show k_L_find_309 Q dp mc ms R36 R209 _ r s z q h f m (nI y) (nI mo) e x10 (nI n) (nI b) (nI t) (nI 0) (nI (b + i)) cd dd T
  have g2 := lFc_fr d (lfm3 d a1 (by simp)) g
  obtain ⟨⟨gs2, gv2, ge2⟩, g3⟩ := id g2
  obtain ⟨⟨r1, r2⟩, -⟩ := gs2.1
  unfold k_L_find_309
  refine pk_le t (b + i) (fun c => ?_) (fun c => ?_)
  · obtain rfl : i = t - b := by omega
    unfold k_L_find_525
    rintro _ rfl
    exact hk T a1 a2 a3
  refine w_nz 0 (fun c0 => absurd c0 (by decide)) (fun _ => ⟨hcd, ?_⟩)
  obtain ⟨a, ha⟩ := get_ex (l := sl n) (k := b + i) (by omega)
  refine q_L_rec gs2 nm ha (fun i2 hi2 hi3 hr ha51 => ⟨cX_mk r1 r2 (by decide) hi2 rfl, fun x17 ex => ?_⟩)
  rw [nI_clamp (by omega), hr] at ex
  subst ex
  rw [nI_add]
  refine ⟨cX_mk gv2.1.1 gv2.1.2 (by decide) (by omega : 32 + n < 64) rfl, ?_⟩
  rw [nI_clamp (by omega), gv2.2.2.2.2 n hn, bN_bit (f := v.2 n) (n := (sl n).length) (j := b + i) (by omega) (by omega)]
  have hlen := hdN_len (f := lhN E sl v y n) (a := b) hl hmo.1 i
  have hfE : lhN E sl v y n (b + i) = if v.2 n (b + i) && decide (0 < rkN E a y) then some (a % 16, rkN E a y) else none := by
    unfold lhN
    rw [ha]
  have fin : ∀ rk, rk < 2 ^ 31 → (∀ U, lHt U f m (if 0 < rk then hdL (hdN (lhN E sl v y n) mo H b i) mo (a % 16, rk) else hdN (lhN E sl v y n) mo H b i) → lHt U f m (hdN (lhN E sl v y n) mo H b (i + 1))) → k_L_find_362 Q dp mc ms R36 R209 (fun b0 b1 b2 b3 b4 b5 b6 b7 b8 b9 b10 b11 b12 b13 b14 b15 b16 b17 S => P (b0, b1, b2, b3, b4, b5, b6, b7, b8, b9, b10, b11, b12, b13, b14, b15, b16, b17, S)) r s z q h f m (nI y) (nI mo) e x10 (nI n) (nI b) (nI t) (nI 0) (nI (b + i)) (lN a) (nI rk) cd dd T := fun rk hrk hU => by
    refine q_hold362 d g2 (by omega) hrk hmo hlen a3 (by omega) (fun U b1 b2 b3 => ih _ (by omega) ⟨U, lw_tr a1 b1 (fun _ c => c), rO_tr a2 b2 (fun _ c => c), hU U b3, by rw [Nat.add_assoc]⟩)
  refine w_N1 (fun e0 => fin 0 (by decide) (fun U hU => ?_)) (fun e0 => ⟨hcd, q_L_rank ge2 (by omega) hy (fin _ (lhN_lt (n := 0) (i := 0) (x := (0, 0)) hE hy a) (fun U hU => ?_))⟩)
  · rw [hdN, hfE, e0]
    exact hU
  · rw [hdN, hfE, e0]
    by_cases c0 : 0 < rkN E a y
    · rw [if_pos c0] at hU
      rw [show (true && decide (0 < rkN E a y)) = true from by simp [c0]]
      exact hU
    · rw [if_neg c0] at hU
      rw [show (true && decide (0 < rkN E a y)) = false from by simp; omega]
      exact hU
theorem q_docsS {Q : cS → Prop} {R36 : Nat → Nat → Nat → Nat → Nat → Nat → Nat → Int32 → Int32 → Nat → Int32 → Nat → Nat → cS → Prop} {R209 : Nat → Nat → Nat → Nat → Nat → Nat → Nat → Int32 → Int32 → Nat → Int32 → Int32 → Int32 → Nat → Nat → cS → Prop} {n b t : Nat} {x10 : Int32} (hbt : b < 2 ^ 30) (ht : t < 2 ^ 30) (hk : R209 r s z q h f m (nI y) (nI mo) e x10 (nI n) (nI b + nI 4) cd dd S) : k_L_find_309L Q dp mc ms R36 R209 r s z q h f m (nI y) (nI mo) e x10 (nI n) (nI b) (nI t) (nI 1) (nI b) cd dd S := by
  unfold k_L_find_309L
  refine lfp_cnt 0 (fun i w => w = (r, s, z, q, h, f, m, nI y, nI mo, e, x10, nI n, nI b, nI t, nI 1, nI b, cd, dd, S)) ?_ rfl
  rintro P i _ hi rfl ih
  show k_L_find_309 Q dp mc ms R36 R209 _ r s z q h f m (nI y) (nI mo) e x10 (nI n) (nI b) (nI t) (nI 1) (nI b) cd dd S
  have k525 : k_L_find_525 Q dp mc ms R36 R209 r s z q h f m (nI y) (nI mo) e x10 (nI n) (nI b) cd dd S := by
    unfold k_L_find_525
    rintro _ rfl
    exact hk
  unfold k_L_find_309
  exact pk_le t b (fun _ => k525) (fun _ => w_nz 1 (fun _ => k525) (fun c => absurd c (by decide)))
theorem q_blocks {Q : cS → Prop} {R36 : Nat → Nat → Nat → Nat → Nat → Nat → Nat → Int32 → Int32 → Nat → Int32 → Nat → Nat → cS → Prop} {n sk i0 : Nat} (d : lFd r s z q h f m e) (g : lFc S r s z q h f m e dn made sl v E) (hy : y < 9) (hcd : cd ≤ mc ∧ dd ≤ ms) (hmo : 1 ≤ mo ∧ mo ≤ 20) (hl : H.length ≤ mo) (hH : lHt S f m H) (h15 : cI S m 15 = nI sk) (hn : n ∈ v.1) (hk : ∀ T, lwT S T [f, m] → rO S T m [14, 15] → lHt T f m (bkS (lhN E sl v y n) (fun a t => bdL E (sl n) a t y 9) mo (sl n).length (H, sk) (((sl n).length + 3) / 4)).1 → cI T m 15 = nI (bkS (lhN E sl v y n) (fun a t => bdL E (sl n) a t y 9) mo (sl n).length (H, sk) (((sl n).length + 3) / 4)).2 → R36 r s z q h f m (nI y) (nI mo) e (nI (i0 + 1)) cd dd T) : k_L_find_209L Q dp mc ms R36 r s z q h f m (nI y) (nI mo) e (nI i0) (nI n) (nI 0) cd dd S := by
  obtain ⟨⟨gs, gv, ge⟩, -⟩ := id g
  have hE : ∀ l, l < 9 → E l ≤ 102 := fun l hl => (ge.2 l hl).2
  obtain ⟨k0, hk0⟩ := List.mem_iff_getElem?.mp hn
  have nm := (gv.2.2.2.1 k0 n hk0).2
  have l10 := (gs.2.2 n nm).2.1
  have n30 : n < 30 := Nat.lt_of_lt_of_le nm gs.2.1.1
  obtain ⟨hf, hhf⟩ : ∃ hf, hf = lhN E sl v y n := ⟨_, rfl⟩
  obtain ⟨bd, hbd⟩ : ∃ bd : Nat → Nat → Nat, bd = fun a t => bdL E (sl n) a t y 9 := ⟨_, rfl⟩
  rw [← hhf, ← hbd] at hk
  have bd31 : ∀ a t, bd a t < 2 ^ 31 := fun a t => by
    have := bdL_le hE (L := sl n) (a := a) (t := t) (y := y) (k := 9) (Nat.le_refl _)
    rw [hbd]
    show bdL E (sl n) a t y 9 < 2 ^ 31
    omega
  unfold k_L_find_209L
  refine lfp_cnt (((sl n).length + 3) / 4) (fun b w => ∃ T, lwT S T [f, m] ∧ rO S T m [14, 15] ∧ lHt T f m (bkS hf bd mo (sl n).length (H, sk) b).1 ∧ cI T m 15 = nI (bkS hf bd mo (sl n).length (H, sk) b).2 ∧ w = (r, s, z, q, h, f, m, nI y, nI mo, e, nI i0, nI n, nI (4 * b), cd, dd, T)) ?_ ⟨S, lw_rf, rO_rf, hH, h15, rfl⟩
  rintro P b _ hb ⟨T, a1, a2, a6, a7, rfl⟩ ih
  show k_L_find_209 Q dp mc ms R36 _ r s z q h f m (nI y) (nI mo) e (nI i0) (nI n) (nI (4 * b)) cd dd T
  have g2 := lFc_fr d (lfm3 d a1 (by simp)) g
  obtain ⟨⟨gs2, gv2, ge2⟩, -, ⟨f1, f2⟩, m1, m2⟩ := id g2
  obtain ⟨-, -, z1, z2⟩ := gs2.1
  have mm : m ∈ [f, m] := by simp
  have hHl := bkS_len (f := hf) (bd := bd) (len := (sl n).length) (s := (H, sk)) hl hmo.1 b
  obtain ⟨B, hB⟩ : ∃ B, B = bkS hf bd mo (sl n).length (H, sk) b := ⟨_, rfl⟩
  rw [← hB] at a6 a7 hHl
  have zX : cX T z 14 (nI n) := cX_mk z1 z2 (by decide) (by omega : n < 30) rfl
  unfold k_L_find_209
  rw [nI_clamp (by omega), (gs2.2.2 n nm).1, nI_add]
  refine ⟨zX, pk_le (sl n).length (4 * b) (fun c => ?_) (fun c => ⟨zX, ?_⟩)⟩
  · obtain rfl : b = ((sl n).length + 3) / 4 := by omega
    rintro _ rfl
    exact hk T a1 a2 (by rw [← hB]; exact a6) (by rw [← hB]; exact a7)
  obtain ⟨t, ht⟩ : ∃ t, t = min (sl n).length (4 * b + 4) := ⟨_, rfl⟩
  have bs : bkS hf bd mo (sl n).length (H, sk) (b + 1) = if mo ≤ B.1.length ∧ bd (4 * b) t ≤ lrH B.1 then (B.1, B.2 + 1) else (hdN hf mo B.1 (4 * b) (t - 4 * b), B.2) := by rw [bkS, ← hB, ← ht]
  have main : ∀ t', t' = t → k_L_find_240 Q dp mc ms R36 (fun b0 b1 b2 b3 b4 b5 b6 b7 b8 b9 b10 b11 b12 b13 b14 S => P (b0, b1, b2, b3, b4, b5, b6, b7, b8, b9, b10, b11, b12, b13, b14, S)) r s z q h f m (nI y) (nI mo) e (nI i0) (nI n) (nI (4 * b)) (nI t') cd dd T := by
    intro t' et'
    rw [et']
    have mX : cX T m 14 (nI 14) := cX_mk m1 m2 (by decide) (by decide : 14 < 17) rfl
    have read : ¬ (mo ≤ B.1.length ∧ bd (4 * b) t ≤ lrH B.1) → k_L_find_284 Q dp mc ms R36 (fun b0 b1 b2 b3 b4 b5 b6 b7 b8 b9 b10 b11 b12 b13 b14 S => P (b0, b1, b2, b3, b4, b5, b6, b7, b8, b9, b10, b11, b12, b13, b14, S)) r s z q h f m (nI y) (nI mo) e (nI i0) (nI n) (nI (4 * b)) (nI t) cd dd T := by
      intro hno
      unfold k_L_find_284 k_L_find_285
      refine ⟨cX_mk m1 m2 (by decide) (by decide : 15 < 17) rfl, w_z 0 (fun _ => ?_) (fun c0 => absurd c0 (by decide))⟩
      unfold k_L_find_303
      refine ⟨cX_mk m1 m2 (by decide) (by decide : 15 < 17) rfl, fun T2 e2 => ?_⟩
      rw [nI_clamp (by decide), a7, nI_add] at e2
      have w2 : lwT T T2 [f, m] := by rw [e2]; exact lw_SI mm
      have o2 : rO T T2 m [14, 15] := by rw [e2]; exact rO_SI (by simp)
      have o3 : rO T T2 m [15] := by rw [e2]; exact rO_SI (by simp)
      have hH2 : lHt T2 f m B.1 := by
        refine ⟨(o3 14 (by decide)).trans a6.1, a6.2.1, ?_⟩
        rw [e2, cI_SI_ne d.2.2.2]
        exact a6.2.2
      refine q_docs d (lFc_fr d (lfm3 d w2 (by simp)) g2) hy hcd hmo hHl hH2 hn (by omega) (by omega) (fun U b1 b2 b3 => ?_)
      rw [nI_add]
      refine ih _ (by omega) ⟨U, lw_tr a1 (lw_tr w2 b1 (fun _ c => c)) (fun _ c => c), rO_tr a2 (rO_tr o2 b2 (by simp)) (fun _ c => c), ?_, ?_, by rw [Nat.mul_succ]⟩
      · rw [bs, if_neg hno, hhf]; exact b3
      · rw [bs, if_neg hno, b2 15 (by decide), e2, cSI_s]
        rfl
    unfold k_L_find_240
    rw [nI_clamp (by decide), a6.1]
    refine ⟨mX, w_ne B.1.length mo (fun c1 => read (fun w => by omega)) (fun c1 => ⟨hcd, ?_⟩)⟩
    refine q_L_bound gs2 nm ge2 (by omega) (by omega) hy ?_
    rw [show bdL E (sl n) (4 * b) t y 9 = bd (4 * b) t from by rw [hbd]]
    obtain ⟨x, hx⟩ := get_ex (l := B.1) (k := B.1.length - 1) (by omega)
    have e60 := a6.2.2 _ x hx
    have lr : lrH B.1 = x.2 := by unfold lrH; rw [List.getD_eq_getElem?_getD, hx]; rfl
    rw [nI_add, pk_sub (show 1 ≤ 20 + mo by omega), show 20 + mo - 1 = 20 + (B.1.length - 1) by omega, nI_clamp (by omega), e60.2.1]
    refine ⟨cX_mk f1 f2 (by decide) (by omega : 20 + (B.1.length - 1) < 40) rfl, pk_lt x.2 (bd (4 * b) t) (fun z2 => read (fun w => by omega)) (fun z2 => ?_) rfl rfl e60.2.2 (bd31 _ _)⟩
    have cond : mo ≤ B.1.length ∧ bd (4 * b) t ≤ lrH B.1 := ⟨by omega, by omega⟩
    unfold k_L_find_285
    refine ⟨cX_mk m1 m2 (by decide) (by decide : 15 < 17) rfl, w_z 1 (fun c0 => absurd c0 (by decide)) (fun _ => ?_)⟩
    unfold k_L_find_303
    refine ⟨cX_mk m1 m2 (by decide) (by decide : 15 < 17) rfl, fun T2 e2 => ?_⟩
    rw [nI_clamp (by decide), a7, nI_add] at e2
    have w2 : lwT T T2 [f, m] := by rw [e2]; exact lw_SI mm
    have o2 : rO T T2 m [14, 15] := by rw [e2]; exact rO_SI (by simp)
    have o3 : rO T T2 m [15] := by rw [e2]; exact rO_SI (by simp)
    refine q_docsS (by omega) (by omega) ?_
    rw [nI_add]
    refine ih _ (by omega) ⟨T2, lw_tr a1 w2 (fun _ c => c), rO_tr a2 o2 (fun _ c => c), ?_, ?_, by rw [Nat.mul_succ]⟩
    · rw [bs, if_pos cond]
      refine ⟨(o3 14 (by decide)).trans a6.1, a6.2.1, ?_⟩
      rw [e2, cI_SI_ne d.2.2.2]
      exact a6.2.2
    · rw [bs, if_pos cond, e2, cSI_s]
  rw [nI_add (4 * b) 4]
  refine pk_le (sl n).length (4 * b + 4) (fun c1 => ⟨zX, main _ (by omega)⟩) (fun c1 => main _ (by omega))
theorem cod_inj {a b c e : Nat} (hb : b < 64) (he : e < 64) (h : 64 * a + b = 64 * c + e) : a = c ∧ b = e := by omega
theorem q_tk158 {Q : cS → Prop} {R36 : Nat → Nat → Nat → Nat → Nat → Nat → Nat → Int32 → Int32 → Nat → Int32 → Nat → Nat → cS → Prop} {a b n i0 : Nat} (d : lFd r s z q h f m e) (g : lFc S r s z q h f m e dn made sl v E) (hy : y < 9) (hn : n < 30) (h13 : cI S m 13 = nI (b + 1)) (hab : a ≤ b) (hb8 : b < 8) (hE : (R.eraseIdx a).length = b) (hR : ∀ i w, R[i]? = some w → cI S h i = nI (64 * w.1 + w.2) ∧ w.1 < 9 ∧ w.2 < 30) (hk : ∀ T, lwT S T [h] → lCa T h m (R.eraseIdx a ++ [(y, n)]) → k_L_find_209L Q dp mc ms R36 r s z q h f m (nI y) (nI mo) e (nI i0) (nI n) (nI 0) cd dd T) : k_L_find_158L Q dp mc ms R36 r s z q h f m (nI y) (nI mo) e (nI i0) (nI n) (nI a) cd dd S := by
  obtain ⟨d0, d1, d2, d3⟩ := id d
  obtain ⟨-, ⟨h1, h2⟩, -, m1, m2⟩ := id g
  have mh : h ∈ [h] := by simp
  have nmh : m ∉ [h] := fun c => d2 (List.mem_singleton.mp c).symm
  unfold k_L_find_158L
  refine lfp_cnt (b - a) (fun i w => ∃ S2, lwT S S2 [h] ∧ (∀ j w, (R.eraseIdx a)[j]? = some w → j < a + i → cI S2 h j = nI (64 * w.1 + w.2)) ∧ (∀ j, a + i ≤ j → cI S2 h j = cI S h j) ∧ w = (r, s, z, q, h, f, m, nI y, nI mo, e, nI i0, nI n, nI (a + i), cd, dd, S2)) ?_ ⟨S, lw_rf, fun j w hw hj => ?_, fun _ _ => rfl, rfl⟩
  · rintro P i _ hi ⟨S2, a1, a2, a3, rfl⟩ ih
    show k_L_find_158 Q dp mc ms R36 _ r s z q h f m (nI y) (nI mo) e (nI i0) (nI n) (nI (a + i)) cd dd S2
    obtain ⟨b1, b2⟩ := lw_row a1 ⟨h1, h2⟩
    obtain ⟨c1, c2⟩ := lw_row a1 ⟨m1, m2⟩
    have m13 : cI S2 m 13 = nI (b + 1) := by rw [lw_I a1 nmh]; exact h13
    have mX : cX S2 m 14 (nI 13) := cX_mk c1 c2 (by decide) (by decide : 13 < 17) rfl
    unfold k_L_find_158
    rw [nI_clamp (show 13 < 2 ^ 31 by decide), m13, pk_sub (show 1 ≤ b + 1 by omega), show b + 1 - 1 = b by omega, nI_add, nI_clamp (show b < 2 ^ 31 by omega), nI_clamp (show a + i < 2 ^ 31 by omega), nI_clamp (show a + i + 1 < 2 ^ 31 by omega), pk_mul, nI_add]
    refine ⟨mX, pk_le (b + 1) (a + i + 1) (fun c => ?_) (fun c => ?_)⟩
    · obtain rfl : i = b - a := by omega
      refine ⟨mX, cX_mk b1 b2 (by decide) (by omega : b < 8) rfl, fun S3 e3 => ?_⟩
      have w3 : lwT S2 S3 [h] := by rw [e3]; exact lw_SI mh
      refine hk S3 (lw_tr a1 w3 (fun _ c => c)) ⟨?_, ?_, fun i w hw => ?_⟩
      · rw [lw_I w3 nmh, m13, List.length_append, hE]; rfl
      · rw [List.length_append, hE]; show b + 1 ≤ 8; omega
      · have q1 : cI S3 h i = if i = b then nI (64 * y + n) else cI S2 h i := by
          rw [e3]
          by_cases k1 : i = b
          · rw [k1, cSI_s, if_pos rfl]
          · rw [cSI_o k1, if_neg k1]
        rw [q1]
        rcases app1_get.mp hw with hw | ⟨k1, k2⟩
        · have lt := get_lt hw
          rw [if_neg (by omega)]
          refine ⟨a2 i w hw (by omega), ?_⟩
          rw [er_get] at hw
          split at hw
          · exact (hR _ w hw).2
          · exact (hR _ w hw).2
        · rw [k1, hE, if_pos rfl, k2]
          exact ⟨rfl, hy, hn⟩
    · refine ⟨cX_mk b1 b2 (by decide) (by omega : a + i + 1 < 8) rfl, cX_mk b1 b2 (by decide) (by omega : a + i < 8) rfl, fun S3 e3 => ?_⟩
      have w3 : lwT S2 S3 [h] := by rw [e3]; exact lw_SI mh
      rintro _ rfl
      have q1 : ∀ j, cI S3 h j = if j = a + i then cI S2 h (a + i + 1) else cI S2 h j := fun j => by
        rw [e3]
        by_cases k1 : j = a + i
        · rw [k1, cSI_s, if_pos rfl]
        · rw [cSI_o k1, if_neg k1]
      refine ih _ (by omega) ⟨S3, lw_tr a1 w3 (fun _ c => c), fun j w hw hj => ?_, fun j hj => ?_, by rw [Nat.add_assoc]⟩
      · rw [q1]
        by_cases c : j = a + i
        · rw [if_pos c]
          rw [er_get, if_neg (by omega), c] at hw
          rw [a3 (a + i + 1) (by omega)]
          exact (hR _ w hw).1
        · rw [if_neg c]
          exact a2 j w hw (by omega)
      · rw [q1, if_neg (by omega)]
        exact a3 j (by omega)
  · rw [er_get, if_pos (by omega)] at hw
    exact (hR _ w hw).1
theorem q_takes {Q : cS → Prop} {R36 : Nat → Nat → Nat → Nat → Nat → Nat → Nat → Int32 → Int32 → Nat → Int32 → Nat → Nat → cS → Prop} {n i0 tk : Nat} (d : lFd r s z q h f m e) (g : lFc S r s z q h f m e dn made sl v E) (hy : y < 9) (hn : n < 30) (hR : lCa S h m R) (h16 : cI S m 16 = nI tk) (hk : ∀ T R' b, lwT S T [h, m] → rO S T m [13, 16] → tkS R (y, n) R' b → lCa T h m R' → cI T m 16 = nI (tk + if b = true then 1 else 0) → k_L_find_209L Q dp mc ms R36 r s z q h f m (nI y) (nI mo) e (nI i0) (nI n) (nI 0) cd dd T) : k_L_find_55L Q dp mc ms R36 r s z q h f m (nI y) (nI mo) e (nI i0) (nI n) (nI 0) cd dd S := by
  obtain ⟨d0, d1, d2, d3⟩ := id d
  obtain ⟨-, ⟨h1, h2⟩, ⟨f1, f2⟩, m1, m2⟩ := id g
  obtain ⟨h13, h8, hr⟩ := hR
  have mm : m ∈ [h, m] := by simp
  have mh : h ∈ [h, m] := by simp
  have nmh : m ∉ [h] := fun c => d2 (List.mem_singleton.mp c).symm
  unfold k_L_find_55L
  refine lfp_cnt R.length (fun i w => (∀ j, j < i → R[j]? ≠ some (y, n)) ∧ w = (r, s, z, q, h, f, m, nI y, nI mo, e, nI i0, nI n, nI i, cd, dd, S)) ?_ ⟨fun j hj => absurd hj (Nat.not_lt_zero j), rfl⟩
  rintro P i _ hi ⟨hno, rfl⟩ ih
  show k_L_find_55 Q dp mc ms R36 _ r s z q h f m (nI y) (nI mo) e (nI i0) (nI n) (nI i) cd dd S
  have mX : cX S m 14 (nI 13) := cX_mk m1 m2 (by decide) (by decide : 13 < 17) rfl
  have mX6 : cX S m 14 (nI 16) := cX_mk m1 m2 (by decide) (by decide : 16 < 17) rfl
  unfold k_L_find_55
  rw [nI_clamp (show 13 < 2 ^ 31 by decide), h13]
  refine ⟨mX, pk_le R.length i (fun c => ?_) (fun c => ⟨cX_mk h1 h2 (by decide) (by omega : i < 8) rfl, ?_⟩)⟩
  · obtain rfl : i = R.length := by omega
    have hnin : (y, n) ∉ R := fun w => by
      obtain ⟨j, hj⟩ := List.mem_iff_getElem?.mp w
      exact hno j (get_lt hj) hj
    unfold k_L_find_87
    rw [nI_clamp (show 13 < 2 ^ 31 by decide), nI_clamp (show 16 < 2 ^ 31 by decide), h13, h16]
    refine ⟨mX6, mX, pk_le R.length R.length (fun _ => ?_) (fun c => absurd c (by omega))⟩
    unfold k_L_find_108
    rw [nI_clamp (show 16 < 2 ^ 31 by decide), nI_add]
    refine ⟨mX6, fun S9 e9 => ?_⟩
    have w9 : lwT S S9 [h, m] := by rw [e9]; exact lw_SI mm
    have o9 : rO S S9 m [13, 16] := by rw [e9]; exact rO_SI (by simp)
    obtain ⟨c1, c2⟩ := lw_row w9 ⟨m1, m2⟩
    have m13 : cI S9 m 13 = nI R.length := by rw [e9, cSI_o (by decide)]; exact h13
    have m16 : cI S9 m 16 = nI (tk + 0) := by rw [e9, cSI_s]
    have hh9 : cI S9 h = cI S h := by rw [e9, cI_SI_ne d2]
    have mX9 : cX S9 m 14 (nI 13) := cX_mk c1 c2 (by decide) (by decide : 13 < 17) rfl
    rw [nI_clamp (show 13 < 2 ^ 31 by decide), m13]
    refine ⟨mX9, w_ne R.length R.length (fun c => absurd rfl c) (fun _ => ⟨mX9, mX9, ?_⟩)⟩
    have k141 : ∀ a b S27, S27 = cSI S9 m 13 (nI (b + 1)) → b < 8 → a ≤ b → (R.eraseIdx a).length = b → a = (if R.length = 8 then 0 else R.length) → k_L_find_158L Q dp mc ms R36 r s z q h f m (nI y) (nI mo) e (nI i0) (nI n) (nI a) cd dd S27 := by
      intro a b S27 e27 hb8 hab hel ha
      have w27 : lwT S9 S27 [h, m] := by rw [e27]; exact lw_SI mm
      have w28 : lwT S S27 [h, m] := lw_tr w9 w27 (fun _ c => c)
      have hh27 : cI S27 h = cI S h := by rw [e27, cI_SI_ne d2, hh9]
      refine q_tk158 d (lFc_fr d (lfm3 d w28 (by simp)) g) hy hn (by rw [e27, cSI_s]) hab hb8 hel (by rw [hh27]; exact hr) (fun T b1 b2 => ?_)
      refine hk T _ false (lw_tr w28 (lw_wk b1 (by simp)) (fun _ c => c)) (rO_tr o9 (rO_tr (by rw [e27]; exact rO_SI (by simp)) (rO_ne (K := [13, 16]) b1 nmh) (fun _ c => c)) (fun _ c => c)) ⟨a, rfl, Or.inr ⟨rfl, hnin, ha⟩⟩ b2 ?_
      rw [lw_I b1 nmh, e27, cSI_o (by decide), m16]
      rfl
    refine pk_le 8 R.length (fun c => ?_) (fun c => ?_)
    · have el : (R.eraseIdx 0).length = 7 := by rw [er_len, if_pos (by omega)]; omega
      unfold k_L_find_141
      rw [nI_clamp (show 13 < 2 ^ 31 by decide), nI_add]
      refine ⟨mX9, fun S27 e27 => w_ne R.length 8 (fun c2 => absurd c2 (by omega)) (fun c2 => ?_)⟩
      unfold k_L_find_156
      exact k141 0 7 S27 (by rw [e27, c2]) (by decide) (by decide) el (by rw [if_pos c2])
    · have el : R.eraseIdx R.length = R := List.ext_getElem? (fun j => by
        rw [er_get]
        split
        · rfl
        · rw [List.getElem?_eq_none (by omega), List.getElem?_eq_none (by omega)])
      unfold k_L_find_141
      rw [nI_clamp (show 13 < 2 ^ 31 by decide), nI_add]
      refine ⟨mX9, fun S27 e27 => w_ne R.length 8 (fun c2 => ?_) (fun c2 => absurd c2 (by omega))⟩
      unfold k_L_find_156
      exact k141 R.length R.length S27 e27 c (Nat.le_refl _) (by rw [el]) (by rw [if_neg c2])
  · obtain ⟨w0, hw0⟩ := get_ex (l := R) (k := i) c
    obtain ⟨e1, e2, e3⟩ := hr i w0 hw0
    rw [nI_clamp (by omega), e1, pk_mul, nI_add]
    by_cases ew : w0 = (y, n)
    · subst ew
      refine ⟨fun _ => ?_, fun c2 => absurd rfl c2⟩
      unfold k_L_find_87
      rw [nI_clamp (show 13 < 2 ^ 31 by decide), nI_clamp (show 16 < 2 ^ 31 by decide), h13, h16]
      refine ⟨mX6, mX, pk_le R.length i (fun c2 => absurd c2 (by omega)) (fun _ => ?_)⟩
      unfold k_L_find_108
      rw [nI_clamp (show 16 < 2 ^ 31 by decide), nI_add]
      refine ⟨mX6, fun S9 e9 => ?_⟩
      have w9 : lwT S S9 [h, m] := by rw [e9]; exact lw_SI mm
      have o9 : rO S S9 m [13, 16] := by rw [e9]; exact rO_SI (by simp)
      obtain ⟨c1, c2⟩ := lw_row w9 ⟨m1, m2⟩
      have m13 : cI S9 m 13 = nI R.length := by rw [e9, cSI_o (by decide)]; exact h13
      have hh9 : cI S9 h = cI S h := by rw [e9, cI_SI_ne d2]
      rw [nI_clamp (show 13 < 2 ^ 31 by decide), m13]
      refine ⟨cX_mk c1 c2 (by decide) (by decide : 13 < 17) rfl, w_ne i R.length (fun _ => ?_) (fun c2 => absurd c2 (by omega))⟩
      have el : (R.eraseIdx i).length = R.length - 1 := by rw [er_len, if_pos c]
      refine q_tk158 (R := R) (a := i) (b := R.length - 1) d (lFc_fr d (lfm3 d w9 (by simp)) g) hy hn (by rw [m13]; congr 1; omega) (by omega) (by omega) el (by rw [hh9]; exact hr) (fun T b1 b2 => ?_)
      refine hk T _ true (lw_tr w9 (lw_wk b1 (by simp)) (fun _ c => c)) (rO_tr o9 (rO_ne (K := [13, 16]) b1 nmh) (fun _ c => c)) ⟨i, rfl, Or.inl ⟨rfl, hw0⟩⟩ b2 ?_
      rw [lw_I b1 nmh, e9, cSI_s]
      rfl
    · refine w_i (fun c2 => ?_) (fun c2 => ?_) |>.symm
      · intro x ex
        rw [ex, nI_add]
        refine ih _ c ⟨fun j hj => ?_, rfl⟩
        by_cases ej : j = i
        · rw [ej, hw0]
          exact fun c3 => ew (Option.some.inj c3)
        · exact hno j (by omega)
      · exfalso
        rw [nI_eq (by omega) (by omega)] at c2
        obtain ⟨k1, k2⟩ := cod_inj (by omega) (by omega) c2
        exact ew (Prod.ext k1 k2)
/-- hits, and how many blocks were skipped, by the first segments -/
def lrS (E : Nat → Nat) (sl : Nat → List Nat) (v : Vw) (y mo : Nat) (ids : List Nat) : Nat → List (Nat × Nat) × Nat
  | 0 => ([], 0)
  | k + 1 => match ids[k]? with
    | some n => bkS (lhN E sl v y n) (fun a t => bdL E (sl n) a t y 9) mo (sl n).length (lrS E sl v y mo ids k) (((sl n).length + 3) / 4)
    | none => lrS E sl v y mo ids k
theorem lrS_len {ids : List Nat} (h1 : 1 ≤ mo) : ∀ k, (lrS E sl v y mo ids k).1.length ≤ mo
  | 0 => Nat.zero_le _
  | k + 1 => by
    rw [lrS]
    cases ids[k]? with
    | none => exact lrS_len h1 k
    | some n => exact bkS_len (lrS_len h1 k) h1 _
theorem q_segs {Q : cS → Prop} (d : lFd r s z q h f m e) (g : lFc S r s z q h f m e dn made sl v E) (hy : y < 9) (hcd : cd ≤ mc ∧ dd ≤ ms) (hmo : 1 ≤ mo ∧ mo ≤ 20) (h14 : cI S m 14 = nI 0) (h15 : cI S m 15 = nI 0) (h16 : cI S m 16 = nI 0) (hR : lCa S h m R) (hk : ∀ T r', lwT S T [h, f, m] → rO S T m [13, 14, 15, 16] → tkR y v.1 v.1.length (R, 0) r' → lCa T h m r'.1 → cI T m 16 = nI r'.2 → lHt T f m (lrS E sl v y mo v.1 v.1.length).1 → cI T m 15 = nI (lrS E sl v y mo v.1 v.1.length).2 → Q T) : k_L_find_36L Q dp mc ms r s z q h f m (nI y) (nI mo) e (nI 0) cd dd S := by
  obtain ⟨⟨gs, gv, ge⟩, -⟩ := id g
  obtain ⟨d0, d1, d2, d3⟩ := id d
  unfold k_L_find_36L
  refine lfp_cnt v.1.length (fun i w => ∃ T r', lwT S T [h, f, m] ∧ rO S T m [13, 14, 15, 16] ∧ tkR y v.1 i (R, 0) r' ∧ lCa T h m r'.1 ∧ cI T m 16 = nI r'.2 ∧ lHt T f m (lrS E sl v y mo v.1 i).1 ∧ cI T m 15 = nI (lrS E sl v y mo v.1 i).2 ∧ w = (r, s, z, q, h, f, m, nI y, nI mo, e, nI i, cd, dd, T)) ?_ ⟨S, (R, 0), lw_rf, rO_rf, rfl, hR, h16, ⟨h14, Nat.zero_le _, fun i x hx => absurd (get_lt hx) (Nat.not_lt_zero i)⟩, h15, rfl⟩
  rintro P i _ hi ⟨T, r', b1, b2, b3, b4, b5, b6, b7, rfl⟩ ih
  show k_L_find_36 Q dp mc ms _ r s z q h f m (nI y) (nI mo) e (nI i) cd dd T
  have g2 := lFc_fr d b1 g
  obtain ⟨⟨gs2, gv2, ge2⟩, -⟩ := id g2
  obtain ⟨⟨q1, q2⟩, q3, q4, q5, q6⟩ := id gv2
  unfold k_L_find_36
  rw [nI_clamp (show 1 < 2 ^ 31 by decide), q3]
  refine ⟨cX_mk q1 q2 (by decide) (by decide : 1 < 64) rfl, pk_le v.1.length i (fun c => ⟨hcd, ?_⟩) (fun c => ?_)⟩
  · obtain rfl : i = v.1.length := by omega
    exact hk T r' b1 b2 b3 b4 b5 b6 b7
  obtain ⟨n, hn⟩ := get_ex (l := v.1) (k := i) c
  obtain ⟨e2, nm⟩ := q5 i n hn
  have n30 : n < 30 := Nat.lt_of_lt_of_le nm gs.2.1.1
  rw [nI_add, nI_clamp (by omega), e2]
  refine ⟨cX_mk q1 q2 (by decide) (by omega : 2 + i < 64) rfl, fun x11 e11 => ?_⟩
  subst e11
  have nh : h ∉ [f, m] := h_fm d
  have nf : f ∉ [h, m] := f_hm d
  refine q_takes d g2 hy n30 b4 b5 (fun U R1 tb c1 c2 c3 c4 c5 => ?_)
  have g3 := lFc_fr d (lfm3 d c1 (by simp)) g2
  have ss : lrS E sl v y mo v.1 (i + 1) = bkS (lhN E sl v y n) (fun a t => bdL E (sl n) a t y 9) mo (sl n).length (lrS E sl v y mo v.1 i) (((sl n).length + 3) / 4) := by rw [lrS, hn]
  refine q_blocks (H := (lrS E sl v y mo v.1 i).1) (sk := (lrS E sl v y mo v.1 i).2) d g3 hy hcd hmo (lrS_len hmo.1 i) (lHt_fr c1 nf c2 (by decide) b6) ((c2 15 (by decide)).trans b7) (List.mem_of_getElem? hn) (fun W d1 d2 d3 d4 => ?_)
  refine ih _ c ⟨W, (R1, r'.2 + if tb = true then 1 else 0), lw_tr b1 (lw_tr (lfm3 d c1 (by simp)) (lfm3 d d1 (by simp)) (fun _ c => c)) (fun _ c => c), rO_tr b2 (rO_tr (rO_tr (K := [13, 14, 15, 16]) rO_rf c2 (by simp)) d2 (by simp)) (fun _ c => c), ⟨r', b3, n, tb, hn, c3, rfl⟩, lCa_fr d1 nh d2 (by decide) c4, ?_, ?_, ?_, rfl⟩
  · rw [d2 16 (by decide)]; exact c5
  · rw [ss]; exact d3
  · rw [ss]; exact d4
theorem rI3 {a b : Nat} : a ∉ [b] ↔ a ≠ b := by simp
theorem q_L_find {Q : cS → Prop} (gs : lSeg S r s z dn made sl) (gv : lVw S q made sl v) (gh : cA S h 14 ∧ cn S h = 8) (gf : cA S f 14 ∧ cn S f = 40) (gm : cA S m 14 ∧ cn S m = 17) (hd : ∀ a, a ∈ [r, s, z, q] → a ∉ [h, f, m]) (hhf : h ≠ f) (hhm : h ≠ m) (hfm : f ≠ m) (hy : y < 9) (hc : 1 ≤ mc ∧ 9 ≤ ms) (hmo : 1 ≤ mo ∧ mo ≤ 20) (hR : lCa S h m R) (hk : ∀ T r', cSub S T (fun a => a ∈ [h, f, m]) → rO S T m [13, 14, 15, 16] → tkR y v.1 v.1.length (R, 0) r' → lCa T h m r'.1 → cI T m 16 = nI r'.2 → lHt T f m (lrS (gaN sl v) sl v y mo v.1 v.1.length).1 → cI T m 15 = nI (lrS (gaN sl v) sl v y mo v.1 v.1.length).2 → Q T) : k_L_find Q dp mc ms r s z q h f m (nI y) (nI mo) S := by
  unfold k_L_find
  refine ⟨9, rfl, by decide, by omega, by omega, fun e he S3 e3 => ⟨⟨by omega, by omega⟩, ?_⟩⟩
  have ne : ∀ {a k : Nat}, cA S a k → a ≠ e := fun ha c => he (c ▸ ha.1)
  obtain ⟨⟨g1, g2, g3⟩, g4, g5⟩ := id gs
  have sub3 : cSub S S3 (fun _ => False) := by rw [e3]; exact sub_A he
  have A3 : ∀ {a k N : Nat}, cA S a k ∧ cn S a = N → cA S3 a k ∧ cn S3 a = N := fun ha => ⟨sub_A1 sub3 ha.1, (sub_cn sub3 ha.1).trans ha.2⟩
  have I3 : ∀ {a k : Nat}, cA S a k → cI S3 a = cI S a := fun ha => sub_cI sub3 ha (fun c => c)
  have J3 : ∀ {a k : Nat}, cA S a k → cJ S3 a = cJ S a := fun ha => sub_cJ sub3 ha (fun c => c)
  have gs3 : lSeg S3 r s z dn made sl := ⟨⟨A3 g1, A3 g2, A3 g3⟩, g4, by rw [I3 g3.1, J3 g2.1, J3 g1.1]; exact g5⟩
  have gv3 : lVw S3 q made sl v := ⟨A3 gv.1, by rw [I3 gv.1.1]; exact gv.2⟩
  have ge3 : cA S3 e 14 ∧ cn S3 e = 9 := by rw [e3]; exact ⟨⟨List.mem_append_right _ (List.mem_singleton.mpr rfl), upR_s⟩, upR_s⟩
  refine q_L_gains gs3 gv3 ge3 (ne g1.1) (ne g2.1) (ne g3.1) (ne gv.1.1) (fun S4 w4 gE => ?_)
  have nse : ∀ {a k : Nat}, cA S a k → a ∉ [e] := fun ha => rI3.mpr (ne ha)
  have gm4 := lw_row w4 (A3 gm)
  have mm : m ∈ [h, f, m] := by simp
  have d : lFd r s z q h f m e := ⟨fun a ha => by
    simp only [List.mem_cons, List.not_mem_nil, or_false] at ha
    rcases ha with rfl | rfl | rfl | rfl | rfl
    · exact hd _ (by simp)
    · exact hd _ (by simp)
    · exact hd _ (by simp)
    · exact hd _ (by simp)
    · simp only [List.mem_cons, List.not_mem_nil, or_false, not_or]
      exact ⟨(ne gh.1).symm, (ne gf.1).symm, (ne gm.1).symm⟩, hhf, hhm, hfm⟩
  have g4 : lFc S4 r s z q h f m e dn made sl v (gaN sl v) := ⟨⟨lw_seg w4 (nse g1.1) (nse g2.1) (nse g3.1) gs3, lw_vw w4 (nse gv.1.1) gv3, gE⟩, lw_row w4 (A3 gh), lw_row w4 (A3 gf), gm4⟩
  refine ⟨cX_mk gm4.1 gm4.2 (by decide) (by decide : 14 < 17) rfl, fun S5 e5 => ?_⟩
  rw [nI_clamp (by decide)] at e5
  have w5 : lwT S4 S5 [h, f, m] := by rw [e5]; exact lw_SI mm
  have gm5 := lw_row w5 gm4
  refine ⟨cX_mk gm5.1 gm5.2 (by decide) (by decide : 15 < 17) rfl, fun S6 e6 => ?_⟩
  rw [nI_clamp (by decide)] at e6
  have w6 : lwT S4 S6 [h, f, m] := lw_tr w5 (by rw [e6]; exact lw_SI mm) (fun _ c => c)
  have gm6 := lw_row w6 gm4
  refine ⟨cX_mk gm6.1 gm6.2 (by decide) (by decide : 16 < 17) rfl, fun S7 e7 => ?_⟩
  rw [nI_clamp (by decide)] at e7
  have w7 : lwT S4 S7 [h, f, m] := lw_tr w6 (by rw [e7]; exact lw_SI mm) (fun _ c => c)
  have o7 : rO S4 S7 m [13, 14, 15, 16] := by
    rw [e7, e6, e5]
    exact rO_tr (rO_tr (K := [13, 14, 15, 16]) (rO_SI (by simp)) (rO_SI (K := [15]) (by simp)) (by simp)) (rO_SI (K := [16]) (by simp)) (by simp)
  have hm4 : cI S4 m = cI S m := by rw [lw_I w4 (nse gm.1), I3 gm.1]
  have hh4 : cI S4 h = cI S h := by rw [lw_I w4 (nse gh.1), I3 gh.1]
  have hR7 : lCa S7 h m R := by
    obtain ⟨a1, a2, a3⟩ := hR
    have b1 : cI S7 m 13 = cI S m 13 := by rw [e7, cSI_o (by decide), e6, cSI_o (by decide), e5, cSI_o (by decide), hm4]
    have b2 : cI S7 h = cI S h := by rw [e7, cI_SI_ne hhm, e6, cI_SI_ne hhm, e5, cI_SI_ne hhm, hh4]
    unfold lCa
    rw [b1, b2]
    exact ⟨a1, a2, a3⟩
  refine q_segs d (lFc_fr d w7 g4) hy ⟨by omega, by omega⟩ hmo ?_ ?_ ?_ hR7 (fun T r' b1 b2 b3 b4 b5 b6 b7 => ?_)
  · rw [e7, cSI_o (by decide), e6, cSI_o (by decide), e5, cSI_s]
  · rw [e7, cSI_o (by decide), e6, cSI_s]
  · rw [e7, cSI_s]
  · refine hk T r' (fun a ha => ?_) ?_ b3 b4 b5 b6 b7
    · obtain ⟨⟨p1, p2, p3⟩, p4⟩ := sub3 a ha
      obtain ⟨⟨t1, t2, t3, t4, t5, t6, t7⟩, t8⟩ := lw_tr w7 b1 (fun _ c => c)
      obtain ⟨⟨u1, u2, u3, u4, u5, u6, u7⟩, u8⟩ := w4
      obtain ⟨p5, p6, p7, p8⟩ := p4 (fun c => c)
      refine ⟨⟨by rw [t1, u1]; exact p1, by rw [t2, u2]; exact p2, by rw [t6, u6]; exact p3⟩, fun hna => ⟨fun q => ?_, ?_, ?_, ?_⟩⟩
      · rw [t3, t4, t5, u3, u4, u5]; exact p5 q
      · rw [(t8 a hna).1, (u8 a (fun c => he (by rw [← List.mem_singleton.mp c]; exact ha))).1]; exact p6
      · rw [(t8 a hna).2, (u8 a (fun c => he (by rw [← List.mem_singleton.mp c]; exact ha))).2]; exact p7
      · rw [t7, u7]; exact p8
    · intro k hk'
      rw [b2 k hk', o7 k hk', hm4]
end LFI
