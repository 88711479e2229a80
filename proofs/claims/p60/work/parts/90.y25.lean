/-! documents, holdings -/
abbrev Dc := (Nat × Nat × Nat) × (List (Int64 × Nat)) × (List (Int64 × Nat))
def dK (d : Dc) : Nat := d.1.1
def dC (d : Dc) : Nat := d.1.2.1
def dN (d : Dc) : Nat := d.1.2.2
def dT (d : Dc) (fl : Nat) : List (Int64 × Nat) := if fl = 0 then d.2.1 else d.2.2
/-- how many of the first hold -/
def cntB (f : Nat → Bool) : Nat → Nat
  | 0 => 0
  | n + 1 => cntB f n + (if f n = true then 1 else 0)
def allB (f : Nat → Bool) : Nat → Bool
  | 0 => true
  | n + 1 => allB f n && f n
theorem cntB_le (f : Nat → Bool) : ∀ n : Nat, cntB f n ≤ n
  | 0 => Nat.le_refl _
  | n + 1 => by
    have := cntB_le f n
    rw [cntB]
    split <;> omega
theorem allB_iff {f : Nat → Bool} : ∀ {n : Nat}, allB f n = true ↔ ∀ i, i < n → f i = true
  | 0 => ⟨fun _ i hi => absurd hi (Nat.not_lt_zero i), fun _ => rfl⟩
  | n + 1 => by
    rw [allB, Bool.and_eq_true, allB_iff]
    constructor
    · rintro ⟨h1, h2⟩ i hi
      rcases Nat.lt_or_ge i n with z | z
      · exact h1 i z
      · obtain rfl : i = n := by omega
        exact h2
    · intro h
      exact ⟨fun i hi => h i (by omega), h n (by omega)⟩
theorem allB_f {f : Nat → Bool} {j n : Nat} (hj : j < n) (h : f j = false) : allB f n = false := by
  cases e : allB f n with
  | false => rfl
  | true => rw [allB_iff.mp e j hj] at h; exact h
theorem cntB_all {f : Nat → Bool} : ∀ {n : Nat}, cntB f n = n ↔ allB f n = true
  | 0 => ⟨fun _ => rfl, fun _ => rfl⟩
  | n + 1 => by
    have h1 := cntB_le f n
    have h2 := cntB_all (f := f) (n := n)
    rw [cntB, allB, Bool.and_eq_true, ← h2]
    by_cases c : f n = true
    · rw [if_pos c]
      exact ⟨fun z => ⟨by omega, c⟩, fun z => by omega⟩
    · rw [if_neg c]
      exact ⟨fun z => by omega, fun z => absurd z.2 c⟩
/-- a holding: a segment, and what is live of it -/
def hoT (S : cS) (h A r N : Nat) (lv : Nat → Bool) : Prop := cA S h 2 ∧ cr S 64 h = some A ∧ cr S 65 h = some r ∧ cA S r 16 ∧ cn S r = N ∧ N ≤ 100 ∧ ∀ j, j < N → cI S r j = bI (!lv j)
/-- a segment with the keys of its documents -/
def sgT (S : cS) (dp A n : Nat) (ds : List Nat) (L : List Dc) : Prop := cA S A 8 ∧ ci S 256 A = nI n ∧ ds.length = L.length ∧ (∃ dl md, cr S 257 A = some dl ∧ lsT S dp dl 0 ds md) ∧ ∀ (i D : Nat) (d : Dc), ds[i]? = some D → L[i]? = some d → cA S D 0 ∧ ci S 0 D = nI (dK d) ∧ dK d < 100
section HO
variable {S T : cS} {dp h A r N n : Nat} {lv : Nat → Bool} {ds : List Nat} {L : List Dc}
theorem hoT_sub {F : Nat → Prop} (s : cSub S T F) (g : hoT S h A r N lv) (h1 : ¬ F h) (h2 : ¬ F r) : hoT T h A r N lv := by
  obtain ⟨g1, g2, g3, g4, g5, g6, g7⟩ := g
  exact ⟨sub_A1 s g1, (sub_cr s g1 h1).trans g2, (sub_cr s g1 h1).trans g3, sub_A1 s g4, (sub_cn s g4).trans g5, g6, by rw [sub_cI s g4 h2]; exact g7⟩
theorem q_isLive {Q : Int32 → cS → Prop} {k : Nat} (g : hoT S h A r N lv) (hk : k < 2 ^ 31) (hQ : Q (bI (decide (k < N) && lv k)) S) : k_X2_isLive Q dp h (nI k) S := by
  obtain ⟨g1, g2, g3, g4, g5, g6, g7⟩ := g
  unfold k_X2_isLive
  refine w_pos k ⟨g1, r, g3, g4, (w_nle N k (fun z => ?_) (fun z => ?_) (by rw [g5]) rfl).symm⟩
  · rw [decide_eq_true z, Bool.true_and] at hQ
    refine ⟨g1, r, g3, cX_mk g4 g5 (by omega) z rfl, ?_⟩
    rw [nI_clamp hk, g7 k z]
    refine w_bn _ (fun c => ?_) (fun c => ?_)
    · rw [show lv k = false by cases e : lv k <;> simp_all] at hQ; exact hQ
    · rw [show lv k = true by cases e : lv k <;> simp_all] at hQ; exact hQ
  · rw [decide_eq_false (by omega), Bool.false_and] at hQ
    exact hQ
theorem q_liveCount {Q : Int32 → cS → Prop} (g : hoT S h A r N lv) (hQ : Q (nI (cntB lv N)) S) : k_X2_liveCount Q dp h S := by
  obtain ⟨g1, g2, g3, g4, g5, g6, g7⟩ := g
  unfold k_X2_liveCount k_X2_liveCount_4L
  refine lfp_cnt N (fun k y => y = (h, nI (cntB lv k), nI k, S)) ?_ rfl
  rintro P k _ hk rfl ih
  show k_X2_liveCount_4 Q dp _ h (nI (cntB lv k)) (nI k) S
  unfold k_X2_liveCount_4
  refine ⟨g1, r, g3, g4, (w_nle N k (fun z => ?_) (fun z => ?_) (by rw [g5]) rfl).symm⟩
  · refine ⟨g1, r, g3, cX_mk g4 g5 (by omega) z rfl, ?_⟩
    rw [nI_clamp (by omega), g7 k z]
    have nxt : ∀ c, c = cntB lv (k + 1) → k_X2_liveCount_25 Q dp (fun b0 b1 b2 S => P (b0, b1, b2, S)) h (nI c) (nI k) S := by
      rintro _ rfl
      unfold k_X2_liveCount_25
      rintro _ rfl
      rw [nI_add]
      exact ih _ z rfl
    refine w_bn (!lv k) (fun c => nxt _ ?_) (fun c => ?_)
    · rw [cntB, if_neg (by cases e : lv k <;> simp_all)]; rfl
    · rintro _ rfl
      rw [nI_add]
      refine nxt _ ?_
      rw [cntB, if_pos (by cases e : lv k <;> simp_all)]
  · obtain rfl : k = N := by omega
    exact hQ
theorem q_liveIn {Q : Int32 → cS → Prop} {b M : Nat} {R : Nat → Nat} (g : hoT S h A r N lv) (bA : cA S b 14) (bn : cn S b = M) (hM : M < 2 ^ 20) (hR : ∀ k, k < M → cI S b k = nI (R k) ∧ R k < 2 ^ 31) (hQ : Q (nI (cntB (fun k => !(R k == 0) && (decide (k < N) && lv k)) M)) S) : k_X2_liveIn Q dp h b S := by
  unfold k_X2_liveIn k_X2_liveIn_4L
  refine lfp_cnt M (fun k y => y = (h, b, nI (cntB (fun k => !(R k == 0) && (decide (k < N) && lv k)) k), nI k, S)) ?_ rfl
  rintro P k _ hk rfl ih
  show k_X2_liveIn_4 Q dp _ h b (nI (cntB (fun k => !(R k == 0) && (decide (k < N) && lv k)) k)) (nI k) S
  unfold k_X2_liveIn_4
  refine ⟨bA, (w_nle M k (fun z => ?_) (fun z => ?_) (by rw [bn]) rfl).symm⟩
  · have nxt : ∀ c, c = cntB (fun k => !(R k == 0) && (decide (k < N) && lv k)) (k + 1) → k_X2_liveIn_27 Q dp (fun b0 b1 b2 b3 S => P (b0, b1, b2, b3, S)) h b (nI c) (nI k) S := by
      rintro _ rfl
      unfold k_X2_liveIn_27
      rintro _ rfl
      rw [nI_add]
      exact ih _ z rfl
    refine ⟨cX_mk bA bn (by omega) z rfl, ?_⟩
    rw [nI_clamp (by omega), (hR k z).1]
    refine w_z (R k) (fun c => nxt _ ?_) (fun c => ⟨g.1, q_isLive g (by omega) ?_⟩) rfl (hR k z).2
    · rw [cntB, if_neg (by simp [c])]; rfl
    · have hne : (R k == 0) = false := beq_eq_false_iff_ne.mpr (by omega)
      refine w_b0 _ (fun c2 => nxt _ ?_) (fun c2 => ?_)
      · rw [cntB, if_neg (by rw [hne, c2]; decide)]; rfl
      · rintro _ rfl
        rw [nI_add]
        refine nxt _ ?_
        rw [cntB, if_pos (by rw [hne, c2]; rfl)]
  · obtain rfl : k = M := by omega
    exact hQ
theorem q_hasDead {Q : Int32 → cS → Prop} (g : hoT S h A r N lv) (hQ : Q (bI (decide (cntB lv N < N))) S) : k_X2_hasDead Q dp h S := by
  obtain ⟨g1, g2, g3, g4, g5, g6, g7⟩ := id g
  have := cntB_le lv N
  unfold k_X2_hasDead
  refine ⟨g1, q_liveCount g ⟨g1, r, g3, g4, pk_le N (cntB lv N) (fun z => ?_) (fun z => ?_) (by rw [g5]) rfl⟩⟩
  · rw [decide_eq_false (by omega)] at hQ; exact hQ
  · rw [decide_eq_true z] at hQ; exact hQ
theorem q_isAlike {Q : Int32 → cS → Prop} {h' A' r' : Nat} {lv' : Nat → Bool} (g : hoT S h A r N lv) (g' : hoT S h' A' r' N lv') (hQ : Q (bI (allB (fun j => lv j == lv' j) N)) S) : k_X2_isAlike Q dp h h' S := by
  obtain ⟨g1, g2, g3, g4, g5, g6, g7⟩ := id g
  unfold k_X2_isAlike k_X2_isAlike_2L
  refine lfp_cnt N (fun k y => (∀ i, i < k → lv i = lv' i) ∧ y = (h, h', nI k, S)) ?_ ⟨fun i z => absurd z (Nat.not_lt_zero i), rfl⟩
  rintro P k _ hk ⟨hp, rfl⟩ ih
  show k_X2_isAlike_2 Q dp _ h h' (nI k) S
  unfold k_X2_isAlike_2
  refine ⟨g1, r, g3, g4, (w_nle N k (fun z => ?_) (fun z => ?_) (by rw [g5]) rfl).symm⟩
  · refine ⟨g1, q_isLive g (by omega) ⟨g'.1, q_isLive g' (by omega) ?_⟩⟩
    rw [decide_eq_true z, Bool.true_and, Bool.true_and]
    have bi : bI (lv k) = bI (lv' k) ↔ lv k = lv' k := by
      cases lv k <;> cases lv' k <;> decide
    refine ⟨fun c => ?_, fun c => ?_⟩
    · rintro _ rfl
      rw [nI_add]
      refine ih _ z ⟨fun i hi => ?_, rfl⟩
      rcases Nat.lt_or_ge i k with y | y
      · exact hp i y
      · obtain rfl : i = k := by omega
        exact bi.mp c
    · rw [allB_f (f := fun j => lv j == lv' j) z (beq_eq_false_iff_ne.mpr (fun y => c (bi.mpr y)))] at hQ; exact hQ
  · obtain rfl : k = N := by omega
    rw [show allB (fun j => lv j == lv' j) k = true from allB_iff.mpr (fun i hi => beq_iff_eq.mpr (hp i hi))] at hQ
    exact hQ
theorem q_sgSize {Q : Int32 → cS → Prop} (g : sgT S dp A n ds L) (hQ : Q (nI L.length) S) : k_X8_size Q dp A S := by
  obtain ⟨g1, g2, g3, ⟨dl, md, g4, g5⟩, g6⟩ := g
  unfold k_X8_size
  refine ⟨g1, dl, g4, g5.1, q_lsize g5 ?_⟩
  rw [g3]; exact hQ
theorem q_liveAt {Q : Int32 → cS → Prop} {x : Int32} (g : hoT S h A r N lv) (gs : sgT S dp A n ds L) (hN : N = L.length)
    (h1 : ∀ (j : Nat) (d : Dc), j < N → L[j]? = some d → lv j = true → nI (dK d) = x → (∀ (i : Nat) (e : Dc), i < j → L[i]? = some e → lv i = true → nI (dK e) ≠ x) → Q (nI j) S)
    (h2 : (∀ (i : Nat) (e : Dc), i < N → L[i]? = some e → lv i = true → nI (dK e) ≠ x) → Q (-1) S) : k_X2_liveAt Q dp h x S := by
  obtain ⟨g1, g2, g3, g4, g5, g6, g7⟩ := id g
  obtain ⟨s1, s2, s3, ⟨dl, md, s4, s5⟩, s6⟩ := id gs
  unfold k_X2_liveAt k_X2_liveAt_2L
  refine lfp_cnt N (fun k y => (∀ (i : Nat) (e : Dc), i < k → L[i]? = some e → lv i = true → nI (dK e) ≠ x) ∧ y = (h, x, nI k, S)) ?_ ⟨fun i e z => absurd z (Nat.not_lt_zero i), rfl⟩
  rintro P k _ hk ⟨hp, rfl⟩ ih
  show k_X2_liveAt_2 Q dp _ h x (nI k) S
  unfold k_X2_liveAt_2
  refine ⟨g1, r, g3, g4, (w_nle N k (fun z => ?_) (fun z => ?_) (by rw [g5]) rfl).symm⟩
  · have nxt : (∀ (e : Dc), L[k]? = some e → lv k = true → nI (dK e) ≠ x) → k_X2_liveAt_54 Q dp (fun b0 b1 b2 S => P (b0, b1, b2, S)) h x (nI k) S := by
      intro hc
      unfold k_X2_liveAt_54
      rintro _ rfl
      rw [nI_add]
      refine ih _ z ⟨fun i e hi => ?_, rfl⟩
      rcases Nat.lt_or_ge i k with y | y
      · exact hp i e y
      · obtain rfl : i = k := by omega
        exact hc e
    obtain ⟨d, hd⟩ := get_ex (l := L) (k := k) (by omega)
    obtain ⟨D, hD⟩ := get_ex (l := ds) (k := k) (by omega)
    obtain ⟨d1, d2, d3⟩ := s6 k D d hD hd
    refine ⟨g1, A, g2, s1, q_sgSize gs (pk_le L.length k (fun y => absurd y (by omega)) (fun _ => ⟨g1, r, g3, cX_mk g4 g5 (by omega) z rfl, ?_⟩))⟩
    rw [nI_clamp (by omega), g7 k z]
    refine w_bn (!lv k) (fun c => nxt (fun e _ hl => ?_)) (fun c => ?_)
    · rw [hl] at c; exact Bool.noConfusion c
    · have hl : lv k = true := by cases e : lv k <;> simp_all
      refine ⟨g1, A, g2, s1, dl, s4, s5.1, q_lget s5 hD ⟨d1, d1, ?_⟩⟩
      rw [d2]
      refine ⟨fun c2 => nxt (fun e he _ => ?_), fun c2 => h1 k d z hd hl c2 hp⟩
      rw [← Option.some.inj (hd.symm.trans he)]; exact c2
  · obtain rfl : k = N := by omega
    exact h2 hp
theorem q_kill {Q : Int32 → cS → Prop} {x : Int32} (g : hoT S h A r N lv) (gs : sgT S dp A n ds L) (hN : N = L.length)
    (h1 : ∀ (T : cS) (j : Nat) (d : Dc), j < N → L[j]? = some d → lv j = true → nI (dK d) = x → (∀ (i : Nat) (e : Dc), i < j → L[i]? = some e → lv i = true → nI (dK e) ≠ x) → T = cSI S r j (bI true) → hoT T h A r N (fun i => if i = j then false else lv i) → Q (bI true) T)
    (h2 : (∀ (i : Nat) (e : Dc), i < N → L[i]? = some e → lv i = true → nI (dK e) ≠ x) → Q (bI false) S) : k_X2_kill Q dp h x S := by
  obtain ⟨g1, g2, g3, g4, g5, g6, g7⟩ := id g
  unfold k_X2_kill
  refine ⟨g1, q_liveAt g gs hN (fun j d hj hd hl hx hf => ?_) (fun hno => ?_)⟩
  · have hne : ¬ nI j = (-1 : Int32) := by
      intro z
      have := nI_pos (n := j) (by omega)
      rw [z] at this
      exact this (by decide)
    refine ⟨fun z => absurd z hne, fun _ => ⟨g1, r, g3, g4, pk_lt j N (fun _ => ⟨g1, r, g3, cX_mk g4 g5 (by omega) hj rfl, fun S4 e4 => ?_⟩) (fun z => absurd z (by omega)) rfl (by rw [g5])⟩⟩
    rw [nI_clamp (by omega)] at e4
    have nh : ¬ h = r := cA_ne g1 g4 (by decide)
    have s4 : cSub S S4 (fun z => z = r) := e4 ▸ sub_SI rfl
    refine h1 S4 j d hj hd hl hx hf e4 ⟨sub_A1 s4 g1, (sub_cr s4 g1 nh).trans g2, (sub_cr s4 g1 nh).trans g3, sub_A1 s4 g4, (sub_cn s4 g4).trans g5, g6, fun i hi => ?_⟩
    show cI S4 r i = bI (!(if i = j then false else lv i))
    rw [hI_SI_e e4 rfl]
    by_cases c : i = j
    · rw [upR_e c, if_pos c]; rfl
    · rw [upR_n c, if_neg c]; exact g7 i hi
  · exact ⟨fun _ => h2 hno, fun z => absurd rfl z⟩
theorem q_hoInit {Q : cS → Prop} {mc ms : Nat} (hA : cA S h 2) (gs : sgT S dp A n ds L) (hN : L.length ≤ 100) (hc : 1 ≤ mc) (hs : L.length ≤ ms) (hQ : ∀ T q, cSub S T (fun z => z = h) → q ∉ cL S → hoT T h A q L.length (fun _ => true) → Q T) : k_X2_init Q dp mc ms h A S := by
  unfold k_X2_init
  refine ⟨hA, fun S1 e1 => ?_⟩
  have s1 : cSub S S1 (fun z => z = h) := e1 ▸ sub_Sr rfl
  have gs1 : sgT S1 dp A n ds L := by
    obtain ⟨a1, a2, a3, ⟨dl, md, a4, a5⟩, a6⟩ := gs
    have nA : ¬ A = h := cA_ne a1 hA (by decide)
    have nF : ∀ z, lsF S dp dl z → ¬ z = h := by
      intro z hz e
      subst e
      rcases hz with y | ⟨y, y2⟩
      · exact cA_ne hA a5.1 (by decide) y
      · obtain ⟨-, -, -, -, -, -, b, hb, hx⟩ := a5
        obtain rfl : b = z := Option.some.inj (hb.symm.trans y)
        rcases hx with hx | hx
        · exact y2 hx.1
        · exact cA_ne hx.2.2.1 hA (by decide) rfl
    exact ⟨sub_A1 s1 a1, (sub_ci s1 a1 nA).trans a2, a3, ⟨dl, md, (sub_cr s1 a1 nA).trans a4, lsT_sub s1 a5 nF⟩, fun i D d hD hd => by
      obtain ⟨d1, d2, d3⟩ := a6 i D d hD hd
      exact ⟨sub_A1 s1 d1, (sub_ci s1 d1 (cA_ne d1 hA (by decide))).trans d2, d3⟩⟩
  refine ⟨gs1.1, ⟨by omega, by omega⟩, q_sgSize gs1 ⟨L.length, rfl, by omega, by omega, by omega, fun q hq S5 e5 => ?_⟩⟩
  have s5 : cSub S S5 (fun z => z = h) := sub_tr s1 (e5 ▸ sub_A (F := fun z => z = h) hq) (fun _ _ z => z)
  refine ⟨sub_A1 s5 hA, fun S6 e6 => ⟨⟨by omega, by omega⟩, ?_⟩⟩
  have s6 : cSub S S6 (fun z => z = h) := sub_tr s5 (e6 ▸ sub_Sr (F := fun z => z = h) rfl) (fun _ _ z => z)
  refine hQ S6 q s6 (fun z => hq (s1 q z).1.1) ⟨sub_A1 s6 hA, hr_Sr_q e6 (by decide) (hr_A e5 (hr_Sr_s e1)), hr_Sr_s e6, ⟨hm_Sr e6 (hm_Ao e5), hk_Sr e6 (hk_Ao e5)⟩, hn_Sr e6 (hn_Ao e5), hN, fun j _ => ?_⟩
  rw [hI_Sr e6 (hI_Ao e5)]
  rfl
theorem q_hoCopy {Q : Nat → cS → Prop} {mc ms : Nat} (g : hoT S h A r N lv) (gs : sgT S dp A n ds L) (hN : N = L.length) (hc : 2 ≤ mc) (hs : 2 + N ≤ ms) (hQ : ∀ T c q, cSub S T (fun _ => False) → c ∉ cL S → q ∉ cL S → hoT T c A q N lv → Q c T) : k_X2_copy Q dp mc ms h S := by
  have g6 : N ≤ 100 := g.2.2.2.2.2.1
  unfold k_X2_copy
  refine ⟨⟨by omega, by omega⟩, fun c hc' S2 e2 => ?_⟩
  have s2 : cSub S S2 (fun _ => False) := e2 ▸ sub_N hc'
  have g2 := hoT_sub s2 g (fun z => z) (fun z => z)
  have gs2 : sgT S2 dp A n ds L := by
    obtain ⟨a1, a2, a3, ⟨dl, md, a4, a5⟩, a6⟩ := gs
    exact ⟨sub_A1 s2 a1, (sub_ci s2 a1 (fun z => z)).trans a2, a3, ⟨dl, md, (sub_cr s2 a1 (fun z => z)).trans a4, lsT_sub s2 a5 (fun _ _ z => z)⟩, fun i D d hD hd => by
      obtain ⟨d1, d2, d3⟩ := a6 i D d hD hd
      exact ⟨sub_A1 s2 d1, (sub_ci s2 d1 (fun z => z)).trans d2, d3⟩⟩
  have cA2 : cA S2 c 2 := ⟨hm_No e2, hk_No e2⟩
  refine ⟨g2.1, A, g2.2.1, 1, N, by omega, by omega, q_hoInit cA2 gs2 (by omega) (Nat.le_refl _) (by omega) (fun S6 q s6 hq g6' => ?_)⟩
  have nc : ∀ {z : Nat}, z ∈ cL S → ¬ z = c := fun hz => cm_nq hc' hz
  have s26 : cSub S S6 (fun _ => False) := sub_tr s2 s6 (fun a ha z => absurd z (nc ha))
  have hqS : q ∉ cL S := fun z => hq (s2 q z).1.1
  have gh := hoT_sub s26 g (fun z => z) (fun z => z)
  rw [← hN] at g6'
  unfold k_X2_copy_14L
  refine lfp_cnt N (fun k y => ∃ S', cSub S6 S' (fun z => z = q) ∧ (∀ j, j < k → cI S' q j = bI (!lv j)) ∧ y = (h, c, nI k, 0 + 1 + 1, 0 + 2 + N, S')) ?_ ⟨S6, sub_rf, fun j z => absurd z (Nat.not_lt_zero j), rfl⟩
  rintro P k _ hk ⟨S', s', hr, rfl⟩ ih
  show k_X2_copy_14 Q dp mc ms _ h c (nI k) (0 + 1 + 1) (0 + 2 + N) S'
  obtain ⟨g1, -, g3, g4, g5, -, g7⟩ := hoT_sub s' gh (cA_ne gh.1 g6'.2.2.2.1 (by decide)) (fun z => hqS (z ▸ g.2.2.2.1.1))
  have nq : ¬ c = q := cA_ne g6'.1 g6'.2.2.2.1 (by decide)
  have c3 : cr S' 65 c = some q := (sub_cr s' g6'.1 nq).trans g6'.2.2.1
  have c64 : cr S' 64 c = some A := (sub_cr s' g6'.1 nq).trans g6'.2.1
  have cA' := sub_A1 s' g6'.1
  have qA' := sub_A1 s' g6'.2.2.2.1
  have qn' := (sub_cn s' g6'.2.2.2.1).trans g6'.2.2.2.2.1
  unfold k_X2_copy_14
  refine ⟨g1, r, g3, g4, (w_nle N k (fun z => ?_) (fun z => ?_) (by rw [g5]) rfl).symm⟩
  · refine ⟨cA', q, c3, qA', (w_nle N k (fun _ => ?_) (fun y => absurd y (by omega)) (by rw [qn']) rfl).symm⟩
    refine ⟨cA', q, c3, g1, r, g3, cX_mk g4 g5 (by omega) z rfl, cX_mk qA' qn' (by omega) z rfl, ?_⟩
    rw [nI_clamp (by omega), g7 k z]
    refine ⟨⟨_, rfl⟩, fun S11 e11 => ?_⟩
    rintro _ rfl
    rw [nI_add]
    refine ih _ z ⟨S11, sub_tr s' (e11 ▸ sub_SI (F := fun z => z = q) rfl) (fun _ _ z => z), fun j hj => ?_, rfl⟩
    rw [hI_SI_e e11 rfl]
    by_cases e : j = k
    · rw [upR_e e, e]
    · rw [upR_n e]; exact hr j (by omega)
  · obtain rfl : k = N := by omega
    refine ⟨⟨by omega, by omega⟩, hQ S' c q (sub_tr s26 s' (fun a ha z => absurd ha (fun w => hqS (z ▸ w)))) hc' hqS ⟨cA', c64, c3, qA', qn', g6, hr⟩⟩
end HO
