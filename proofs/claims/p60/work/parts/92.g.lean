/-! the law's flush -/
def rJ (S T : cS) (s : Nat) (K : List Nat) : Prop := ∀ k, k ∉ K → cJ T s k = cJ S s k
theorem rJ_rf {S : cS} {m : Nat} {K : List Nat} : rJ S S m K := fun _ _ => rfl
theorem rJ_tr {S T U : cS} {m : Nat} {K J : List Nat} (h1 : rJ S T m K) (h2 : rJ T U m J) (h : ∀ k, k ∈ J → k ∈ K) : rJ S U m K := fun k hk => (h2 k (fun z => hk (h k z))).trans (h1 k hk)
theorem rJ_SJ {S : cS} {m k : Nat} {x : Int64} {K : List Nat} (hk : k ∈ K) : rJ S (cSJ S m k x) m K := fun j hj => cSJ_o (fun e => hj (e ▸ hk))
theorem rJ_ne {S T : cS} {m : Nat} {A K : List Nat} (h : lwT S T A) (hm : m ∉ A) : rJ S T m K := fun k _ => by rw [lw_J h hm]
theorem cJ_SJ_ne {S : cS} {b k c : Nat} {x : Int64} (h : c ≠ b) : cJ (cSJ S b k x) c = cJ S c := mU_n h
/-- the segment that a flush makes -/
def lFs (S T : cS) (ad : Nat → Nat) (dn made ixn n w : Nat) (cc : Option Nat) : Prop := lwT S T ([0, 2, 3, 4, 5, 6, 15].map ad) ∧ rO S T (ad 15) [0, 1, 2, 3, 4, 5] ∧ (cI T (ad 15) 0 = nI (dn + n) ∧ cI T (ad 15) 1 = nI 0 ∧ cI T (ad 15) 2 = nI (made + 1) ∧ cI T (ad 15) 3 = nI (ixn + 1) ∧ cI T (ad 15) 4 = nI (w + (n + 1)) ∧ cI T (ad 15) 5 = cIn (cc.map (fun k => k - (n + 1)))) ∧ (∀ i, i < n → cJ T (ad 0) (dn + i) = cJ S (ad 1) i) ∧ (∀ i, i < dn → cJ T (ad 0) i = cJ S (ad 0) i) ∧ (rJ S T (ad 2) [made] ∧ cJ T (ad 2) made = lN (pk6 (fun j => dn + j) n)) ∧ (rO S T (ad 3) [made] ∧ cI T (ad 3) made = nI n) ∧ (rO S T (ad 4) [made] ∧ cI T (ad 4) made = nI (bN (fun _ => true) n)) ∧ (rO S T (ad 5) [made] ∧ cI T (ad 5) made = nI (bN (fun _ => true) n)) ∧ rO S T (ad 6) [ixn] ∧ cI T (ad 6) ixn = nI made
section LG6
variable {S T U : cS} {ad : Nat → Nat} {dp dn made ixn n w : Nat} {cc : Option Nat}
theorem q_fl61 {Q : Int32 → cS → Prop} (g : lRow S ad) (hT : lWn S T (ad 15) w cc (n + 1)) (hn : 1 ≤ n ∧ n ≤ 10) (hdn : dn + n ≤ 60) (hmd : made < 28) (hix : ixn < 28) (h0 : cI S (ad 15) 0 = nI dn) (h2 : cI S (ad 15) 2 = nI made) (h3 : cI S (ad 15) 3 = nI ixn) (hk : ∀ U, lFs S U ad dn made ixn n w cc → Q (nI made) U) : k_L_flushed_44 Q dp (ad 0) (ad 1) (ad 2) (ad 3) (ad 4) (ad 5) (ad 6) (ad 15) (nI n) T := by
  obtain ⟨w0, o0, e4, e5, hj⟩ := hT
  have gT := lR_w w0 g
  have wl : ∀ {V W : cS} {A : List Nat} (L : List Nat), lwT V W A → (∀ a, a ∈ A → a ∈ L.map ad) → lwT V W (L.map ad) := fun L h h' => lw_wk h h'
  have m0 : cI T (ad 15) 0 = nI dn := (o0 0 (by decide)).trans h0
  have m2 : cI T (ad 15) 2 = nI made := (o0 2 (by decide)).trans h2
  have m3 : cI T (ad 15) 3 = nI ixn := (o0 3 (by decide)).trans h3
  unfold k_L_flushed_44
  refine w_nz n (fun _ => ?_) (fun c => absurd c (by omega))
  rw [nI_clamp (by decide), m2]
  refine ⟨lR_X gT (i := 15) (by decide) (by decide), lR_X gT (i := 2) (by decide) (by show made < 30; omega), fun S2 e2 => ?_⟩
  rw [nI_clamp (by omega)] at e2
  have w2 : lwT T S2 ([0, 2, 15].map ad) := by rw [e2]; exact lw_SJ (by simp)
  unfold k_L_flushed_61L
  refine lfp_cnt n (fun i y => ∃ V, lwT T V ([0, 2, 15].map ad) ∧ rO T V (ad 15) [0] ∧ cI V (ad 15) 0 = nI (dn + i) ∧ (∀ k, k < i → cJ V (ad 0) (dn + k) = cJ T (ad 1) k) ∧ (∀ k, k < dn → cJ V (ad 0) k = cJ T (ad 0) k) ∧ rJ T V (ad 2) [made] ∧ cJ V (ad 2) made = lN (pk6 (fun j => dn + j) i) ∧ y = (ad 0, ad 1, ad 2, ad 3, ad 4, ad 5, ad 6, ad 15, nI n, nI i, V)) ?_ ⟨S2, w2, ?_, ?_, fun k hk => absurd hk (Nat.not_lt_zero k), fun k _ => ?_, ?_, ?_, rfl⟩
  · rintro P i _ hi ⟨V, b1, b2, b3, b4, b5, b6, b7, rfl⟩ ih
    show k_L_flushed_61 Q dp _ (ad 0) (ad 1) (ad 2) (ad 3) (ad 4) (ad 5) (ad 6) (ad 15) (nI n) (nI i) V
    have gV := lR_w b1 gT
    have v2 : cI V (ad 15) 2 = nI made := (b2 2 (by decide)).trans m2
    have x15 : ∀ {W : cS}, lRow W ad → ∀ k, k < 17 → cX W (ad 15) 14 (nI k) := fun gW k hk => lR_X gW (i := 15) (by decide) hk
    unfold k_L_flushed_61
    refine pk_le n i (fun c => ?_) (fun c => ?_)
    · obtain rfl : i = n := by omega
      have c15 : ∀ k, k < 17 → (nI k).toNatClampNeg = k := fun k hk => nI_clamp (by omega)
      rw [c15 2 (by decide), c15 3 (by decide), c15 1 (by decide), v2, nI_clamp (show made < 2 ^ 31 by omega), bN_whole (by omega)]
      refine ⟨x15 gV 2 (by decide), lR_X gV (i := 3) (by decide) (by show made < 30; omega), fun S3 e3 => ?_⟩
      have w3 : lwT V S3 ([3].map ad) := by rw [e3]; exact lw_SI (by simp)
      have g3 := lR_w w3 gV
      have q3 : cI S3 (ad 15) = cI V (ad 15) := lwI gV w3 15 rfl
      rw [q3, v2, nI_clamp (show made < 2 ^ 31 by omega)]
      refine ⟨x15 g3 2 (by decide), lR_X g3 (i := 4) (by decide) (by show made < 30; omega), fun S4 e4' => ?_⟩
      have w4 : lwT S3 S4 ([4].map ad) := by rw [e4']; exact lw_SI (by simp)
      have g4 := lR_w w4 g3
      have q4 : cI S4 (ad 15) = cI V (ad 15) := (lwI g3 w4 15 rfl).trans q3
      have l4 : cI S4 (ad 4) made = nI (bN (fun _ => true) i) := by rw [e4', cSI_s]
      rw [q4, v2, nI_clamp (show made < 2 ^ 31 by omega), l4]
      refine ⟨x15 g4 2 (by decide), x15 g4 2 (by decide), lR_X g4 (i := 4) (by decide) (by show made < 30; omega), lR_X g4 (i := 5) (by decide) (by show made < 30; omega), fun S5 e5' => ?_⟩
      have w5 : lwT S4 S5 ([5].map ad) := by rw [e5']; exact lw_SI (by simp)
      have g5 := lR_w w5 g4
      have q5 : cI S5 (ad 15) = cI V (ad 15) := (lwI g4 w5 15 rfl).trans q4
      have v3 : cI V (ad 15) 3 = nI ixn := (b2 3 (by decide)).trans m3
      rw [q5, v3, v2, nI_clamp (show ixn < 2 ^ 31 by omega)]
      refine ⟨x15 g5 3 (by decide), x15 g5 2 (by decide), lR_X g5 (i := 6) (by decide) (by show ixn < 30; omega), fun S6 e6 => ?_⟩
      have w6 : lwT S5 S6 ([6].map ad) := by rw [e6]; exact lw_SI (by simp)
      have g6 := lR_w w6 g5
      have q6 : cI S6 (ad 15) = cI V (ad 15) := (lwI g5 w6 15 rfl).trans q5
      rw [q6, v3, nI_add]
      refine ⟨x15 g6 3 (by decide), x15 g6 3 (by decide), fun S7 e7 => ?_⟩
      have w7 : lwT S6 S7 ([15].map ad) := by rw [e7]; exact lw_SI (by simp)
      have g7 := lR_w w7 g6
      have v72 : cI S7 (ad 15) 2 = nI made := by rw [e7, cSI_o (by decide), q6]; exact v2
      rw [v72, nI_add]
      refine ⟨x15 g7 2 (by decide), x15 g7 2 (by decide), fun S8 e8 => ?_⟩
      have w8 : lwT S7 S8 ([15].map ad) := by rw [e8]; exact lw_SI (by simp)
      have g8 := lR_w w8 g7
      refine ⟨x15 g8 1 (by decide), fun S9 e9 => ?_⟩
      have w9 : lwT S8 S9 ([15].map ad) := by rw [e9]; exact lw_SI (by simp)
      have g9 := lR_w w9 g8
      have v92 : cI S9 (ad 15) 2 = nI (made + 1) := by rw [e9, cSI_o (by decide), e8, cSI_s]
      rw [v92, pk_sub (by omega), Nat.add_sub_cancel]
      refine ⟨x15 g9 2 (by decide), hk S9 ?_⟩
      -- frames
      have t7 : lwT S6 S9 ([15].map ad) := lw_tr w7 (lw_tr w8 w9 (fun _ c => c)) (fun _ c => c)
      have r0 : cJ S9 (ad 0) = cJ V (ad 0) := by rw [lwJ g6 t7 0 rfl, lwJ g5 w6 0 rfl, lwJ g4 w5 0 rfl, lwJ g3 w4 0 rfl, lwJ gV w3 0 rfl]
      have r2 : cJ S9 (ad 2) = cJ V (ad 2) := by rw [lwJ g6 t7 2 rfl, lwJ g5 w6 2 rfl, lwJ g4 w5 2 rfl, lwJ g3 w4 2 rfl, lwJ gV w3 2 rfl]
      have r3 : cI S9 (ad 3) = cI S3 (ad 3) := by rw [lwI g6 t7 3 rfl, lwI g5 w6 3 rfl, lwI g4 w5 3 rfl, lwI g3 w4 3 rfl]
      have r4 : cI S9 (ad 4) = cI S4 (ad 4) := by rw [lwI g6 t7 4 rfl, lwI g5 w6 4 rfl, lwI g4 w5 4 rfl]
      have r5 : cI S9 (ad 5) = cI S5 (ad 5) := by rw [lwI g6 t7 5 rfl, lwI g5 w6 5 rfl]
      have r6 : cI S9 (ad 6) = cI S6 (ad 6) := by rw [lwI g6 t7 6 rfl]
      have s4 : cI S3 (ad 4) = cI S (ad 4) := by rw [lwI gV w3 4 rfl, lwI gT b1 4 rfl, lw_I w0 (lR_n g (i := 4) (L := [15]) rfl)]
      have s5 : cI S4 (ad 5) = cI S (ad 5) := by rw [lwI g3 w4 5 rfl, lwI gV w3 5 rfl, lwI gT b1 5 rfl, lw_I w0 (lR_n g (i := 5) (L := [15]) rfl)]
      have s6 : cI S5 (ad 6) = cI S (ad 6) := by rw [lwI g4 w5 6 rfl, lwI g3 w4 6 rfl, lwI gV w3 6 rfl, lwI gT b1 6 rfl, lw_I w0 (lR_n g (i := 6) (L := [15]) rfl)]
      have s3 : cI V (ad 3) = cI S (ad 3) := by rw [lwI gT b1 3 rfl, lw_I w0 (lR_n g (i := 3) (L := [15]) rfl)]
      have T0 : cJ T (ad 0) = cJ S (ad 0) := lw_J w0 (lR_n g (i := 0) (L := [15]) rfl)
      have T1 : cJ T (ad 1) = cJ S (ad 1) := lw_J w0 (lR_n g (i := 1) (L := [15]) rfl)
      have T2 : cJ T (ad 2) = cJ S (ad 2) := lw_J w0 (lR_n g (i := 2) (L := [15]) rfl)
      refine ⟨?_, ?_, ⟨?_, ?_, v92, ?_, ?_, ?_⟩, ?_, ?_, ⟨?_, ?_⟩, ⟨?_, ?_⟩, ⟨?_, ?_⟩, ⟨?_, ?_⟩, ?_, ?_⟩
      · refine lw_tr (wl [0, 2, 3, 4, 5, 6, 15] w0 (by simp)) (lw_tr (wl [0, 2, 3, 4, 5, 6, 15] b1 (by simp)) (lw_tr (wl [0, 2, 3, 4, 5, 6, 15] w3 (by simp)) (lw_tr (wl [0, 2, 3, 4, 5, 6, 15] w4 (by simp)) (lw_tr (wl [0, 2, 3, 4, 5, 6, 15] w5 (by simp)) (lw_tr (wl [0, 2, 3, 4, 5, 6, 15] w6 (by simp)) (wl [0, 2, 3, 4, 5, 6, 15] t7 (by simp)) (fun _ c => c)) (fun _ c => c)) (fun _ c => c)) (fun _ c => c)) (fun _ c => c)) (fun _ c => c)
      · intro k hk'
        simp only [List.mem_cons, List.not_mem_nil, or_false, not_or] at hk'
        rw [e9, cSI_o hk'.2.1, e8, cSI_o hk'.2.2.1, e7, cSI_o hk'.2.2.2.1, q6, b2 k (by simp; exact hk'.1), o0 k (by simp; exact ⟨hk'.2.2.2.2.1, hk'.2.2.2.2.2⟩)]
      · rw [e9, cSI_o (by decide), e8, cSI_o (by decide), e7, cSI_o (by decide), q6]; exact b3
      · rw [e9, cSI_s]
      · rw [e9, cSI_o (by decide), e8, cSI_o (by decide), e7, cSI_s]
      · rw [e9, cSI_o (by decide), e8, cSI_o (by decide), e7, cSI_o (by decide), q6, b2 4 (by decide)]; exact e4
      · rw [e9, cSI_o (by decide), e8, cSI_o (by decide), e7, cSI_o (by decide), q6, b2 5 (by decide)]; exact e5
      · intro k hk'
        rw [r0, b4 k hk', T1]
      · intro k hk'
        rw [r0, b5 k hk', T0]
      · intro k hk'
        rw [r2, b6 k hk', T2]
      · rw [r2]; exact b7
      · intro k hk'
        rw [r3, e3, cSI_o (fun e => hk' (by simp [e])), s3]
      · rw [r3, e3, cSI_s]
      · intro k hk'
        rw [r4, e4', cSI_o (fun e => hk' (by simp [e])), s4]
      · rw [r4]; exact l4
      · intro k hk'
        rw [r5, e5', cSI_o (fun e => hk' (by simp [e])), s5]
      · rw [r5, e5', cSI_s]
      · intro k hk'
        rw [r6, e6, cSI_o (fun e => hk' (by simp [e])), s6]
      · rw [r6, e6, cSI_s]
    · have v0 : cI V (ad 15) 0 = nI (dn + i) := b3
      rw [nI_clamp (show 0 < 2 ^ 31 by decide), nI_clamp (show 2 < 2 ^ 31 by decide), nI_clamp (show i < 2 ^ 31 by omega), v0, nI_clamp (show dn + i < 2 ^ 31 by omega)]
      refine ⟨x15 gV 0 (by decide), lR_X gV (i := 1) (by decide) (by show i < 12; omega), lR_X gV (i := 0) (by decide) (by show dn + i < 64; omega), fun S10 e10 => ?_⟩
      have w10 : lwT V S10 ([0].map ad) := by rw [e10]; exact lw_SJ (by simp)
      have g10 := lR_w w10 gV
      have q10 : cI S10 (ad 15) = cI V (ad 15) := lwI gV w10 15 rfl
      have k10 : cJ S10 (ad 2) made = lN (pk6 (fun j => dn + j) i) := by rw [lwJ gV w10 2 rfl]; exact b7
      have pl := pk6_lt (f := fun j => dn + j) (n := i) (fun j hj => by omega)
      rw [q10, v2, v0, nI_clamp (show made < 2 ^ 31 by omega), k10, nI_toL (by omega), pk_mul, jSl_N (by omega) (by
        have : 2 ^ (6 * i) ≤ 2 ^ 54 := Nat.pow_le_pow_right (by decide) (by omega)
        have : (dn + i) * 2 ^ (6 * i) ≤ 64 * 2 ^ 54 := Nat.mul_le_mul (by omega) this
        omega), lN_orS (by rw [show 2 ^ (6 * i) = 64 ^ i from by rw [show (64 : Nat) = 2 ^ 6 from rfl, ← Nat.pow_mul]]; exact pl), nI_add]
      refine ⟨x15 g10 2 (by decide), lR_X g10 (i := 2) (by decide) (by show made < 30; omega), x15 g10 0 (by decide), lR_X g10 (i := 2) (by decide) (by show made < 30; omega), fun S11 e11 => ?_⟩
      have w11 : lwT S10 S11 ([2].map ad) := by rw [e11]; exact lw_SJ (by simp)
      have g11 := lR_w w11 g10
      have q11 : cI S11 (ad 15) = cI V (ad 15) := (lwI g10 w11 15 rfl).trans q10
      rw [q11, v0, nI_add]
      refine ⟨x15 g11 0 (by decide), x15 g11 0 (by decide), fun S12 e12 => ?_⟩
      have w12 : lwT S11 S12 ([15].map ad) := by rw [e12]; exact lw_SI (by simp)
      rintro _ rfl
      have r0 : cJ S12 (ad 0) = cJ S10 (ad 0) := by rw [lwJ g11 w12 0 rfl, lwJ g10 w11 0 rfl]
      have r2 : cJ S12 (ad 2) = cJ S11 (ad 2) := lwJ g11 w12 2 rfl
      have V1 : cJ V (ad 1) = cJ T (ad 1) := lwJ gT b1 1 rfl
      refine ih _ c ⟨S12, lw_tr b1 (lw_tr (wl [0, 2, 15] w10 (by simp)) (lw_tr (wl [0, 2, 15] w11 (by simp)) (wl [0, 2, 15] w12 (by simp)) (fun _ c => c)) (fun _ c => c)) (fun _ c => c), ?_, ?_, ?_, ?_, ?_, ?_, rfl⟩
      · intro k hk'
        rw [e12, cSI_o (fun e => hk' (by simp [e])), q11, b2 k hk']
      · rw [e12, cSI_s]; rfl
      · intro k hk'
        rw [r0, e10]
        by_cases ck : k = i
        · subst ck
          rw [cSJ_s, V1]
        · rw [cSJ_o (by omega)]
          exact b4 k (by omega)
      · intro k hk'
        rw [r0, e10, cSJ_o (by omega)]
        exact b5 k hk'
      · intro k hk'
        rw [r2, e11, cSJ_o (fun e => hk' (by simp [e])), lwJ gV w10 2 rfl]
        exact b6 k hk'
      · rw [r2, e11, cSJ_s, pk6_s, show 2 ^ (6 * i) = 64 ^ i from by rw [show (64 : Nat) = 2 ^ 6 from rfl, ← Nat.pow_mul]]
  · intro k _
    rw [e2]; rfl
  · rw [e2]; exact m0
  · rw [e2, cJ_SJ_ne (lR_ne gT (by decide) (by decide) (by decide))]
  · rw [e2]; exact rJ_SJ (by simp)
  · rw [e2, cSJ_s]; rfl
theorem q_L_flushed {Q : Int32 → cS → Prop} (g : lRow S ad) (hcc : ∀ k, cc = some k → k ≤ 1000) (hn : n ≤ 10) (hdn : dn + n ≤ 60) (hmd : made < 28) (hix : ixn < 28) (h0 : cI S (ad 15) 0 = nI dn) (h1 : cI S (ad 15) 1 = nI n) (h2 : cI S (ad 15) 2 = nI made) (h3 : cI S (ad 15) 3 = nI ixn) (h4 : cI S (ad 15) 4 = nI w) (h5 : cI S (ad 15) 5 = cIn cc) (hk0 : n = 0 → Q (-1) S) (hk1 : ∀ U, 0 < n → (∀ k, cc = some k → n + 1 ≤ k) → lFs S U ad dn made ixn n w cc → Q (nI made) U) (hk2 : ∀ U j, 0 < n → j ≤ n → cc = some j → lDw S U (ad 15) (ad 8) (ad 9) (ad 10) (w + j) → Q (-2) U) : k_L_flushed Q dp (ad 0) (ad 1) (ad 2) (ad 3) (ad 4) (ad 5) (ad 6) (ad 8) (ad 9) (ad 10) (ad 15) S := by
  unfold k_L_flushed
  refine ⟨lR_X g (i := 15) (by decide) (by decide), fun x ex => ?_⟩
  rw [nI_clamp (by decide), h1] at ex
  subst ex
  unfold k_L_flushed_9L
  refine lfp_cnt (n + 1) (fun i y => (0 < n ∨ i = 0) ∧ ∃ V, lWn S V (ad 15) w cc i ∧ (i = 0 → V = S) ∧ y = (ad 0, ad 1, ad 2, ad 3, ad 4, ad 5, ad 6, ad 8, ad 9, ad 10, ad 15, nI n, nI i, V)) ?_ ⟨Or.inr rfl, S, lWn_0 h4 h5, fun _ => rfl, rfl⟩
  rintro P i _ hi ⟨hni, V, hV, hVS, rfl⟩ ih
  show k_L_flushed_9 Q dp _ (ad 0) (ad 1) (ad 2) (ad 3) (ad 4) (ad 5) (ad 6) (ad 8) (ad 9) (ad 10) (ad 15) (nI n) (nI i) V
  unfold k_L_flushed_9
  by_cases c0 : n = 0
  · refine ⟨fun _ => ?_, fun hc => absurd ((nI_le0 (by omega)).mpr c0) hc⟩
    unfold k_L_flushed_44
    refine w_nz n (fun c => absurd c (by omega)) (fun _ => ?_)
    rw [hVS (by omega)]
    exact hk0 c0
  · refine ⟨fun hc => absurd ((nI_le0 (by omega)).mp hc) c0, fun _ => ?_⟩
    refine pk_lt n i (fun c => ?_) (fun c => ?_)
    · obtain rfl : i = n + 1 := by omega
      exact q_fl61 g hV ⟨by omega, hn⟩ hdn hmd hix h0 h2 h3 (fun U hU => hk1 U (by omega) hV.2.2.2.2 hU)
    · refine q_L_writes (g.1 15 (by decide)) (g.1 8 (by decide)) (g.1 9 (by decide)) (g.1 10 (by decide)) (lR_ne g (by decide) (by decide) (by decide)) (lR_ne g (by decide) (by decide) (by decide)) (lR_ne g (by decide) (by decide) (by decide)) hcc hV (fun U _ hU => ?_) (fun U hc hU => ?_)
      · refine w_Bn (fun _ => ?_) (fun c => absurd c (by decide))
        intro y ey
        rw [ey, nI_add]
        exact ih _ (by omega) ⟨Or.inl (by omega), U, hU, fun c => absurd c (by omega), rfl⟩
      · exact w_Bn (fun c => absurd c (by decide)) (fun _ => hk2 U i (by omega) c hc hU)
end LG6
