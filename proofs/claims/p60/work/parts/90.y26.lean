/-! views -/
/-- a view: segments by their numbers, and what is live of them -/
def vwT (S : cS) (dp : Nat) (so : Nat → Nat) (sd : Nat → List Nat) (sg : Nat → List Dc) (V hl m : Nat) (hs ids : List Nat) (lv : Nat → Nat → Bool) : Prop := cA S V 10 ∧ cr S 321 V = some hl ∧ lsT S dp hl 2 hs m ∧ hs.length = ids.length ∧ ∀ (i h n : Nat), hs[i]? = some h → ids[i]? = some n → sgT S dp (so n) n (sd n) (sg n) ∧ (sg n).length ≤ 100 ∧ n < 1000 ∧ ∃ r, hoT S h (so n) r (sg n).length (lv n)
def tierN (n : Nat) : Nat := if n < 3 then 0 else if n < 9 then 1 else if n < 27 then 2 else if n < 81 then 3 else 4
section VW
variable {S T : cS} {dp V hl m : Nat} {so : Nat → Nat} {sd : Nat → List Nat} {sg : Nat → List Dc} {hs ids : List Nat} {lv : Nat → Nat → Bool}
theorem vw_len (g : vwT S dp so sd sg V hl m hs ids lv) : hs.length = ids.length ∧ ids.length < 8000 := by
  have := g.2.2.1.2.2.1
  have := g.2.2.1.2.2.2.1
  have := g.2.2.2.1
  exact ⟨by omega, by omega⟩
theorem q_vsize {Q : Int32 → cS → Prop} (g : vwT S dp so sd sg V hl m hs ids lv) (h : Q (nI ids.length) S) : k_X10_size Q dp V S := by
  obtain ⟨g1, g2, g3, g4, g5⟩ := g
  unfold k_X10_size
  refine ⟨g1, hl, g2, g3.1, q_lsize g3 ?_⟩
  rw [g4]; exact h
theorem q_vat {Q : Option Nat → cS → Prop} {k y : Nat} (g : vwT S dp so sd sg V hl m hs ids lv) (hk : hs[k]? = some y) (h : Q (some y) S) : k_X10_at Q dp V (nI k) S := by
  have hlen := vw_len g
  have hkl := get_lt hk
  obtain ⟨g1, g2, g3, g4, g5⟩ := g
  unfold k_X10_at
  refine w_pos k ⟨g1, hl, g2, g3.1, q_lsize g3 (pk_lt k hs.length (fun _ => ⟨g1, hl, g2, g3.1, q_lget g3 hk ⟨g3.2.2.2.2.2.1 y (List.mem_of_getElem? hk), h⟩⟩) (fun z => absurd z (by omega)))⟩
theorem q_vatN {Q : Option Nat → cS → Prop} {x : Int32} (g : vwT S dp so sd sg V hl m hs ids lv) (hx : ∀ k, k < ids.length → x ≠ nI k) (h : Q none S) : k_X10_at Q dp V x S := by
  have hlen := vw_len g
  obtain ⟨g1, g2, g3, g4, g5⟩ := g
  unfold k_X10_at
  refine ⟨fun _ => h, fun c => ⟨g1, hl, g2, g3.1, q_lsize g3 ⟨fun z => ?_, fun _ => h⟩⟩⟩
  obtain ⟨j, hj, rfl⟩ := nI_of c
  have := (nI_ltI hj (by omega)).mp z
  exact absurd rfl (hx j (by omega))
theorem q_vplaceOf {Q : Int32 → cS → Prop} {n : Nat} (g : vwT S dp so sd sg V hl m hs ids lv) (hn : ∀ n', n' ∈ ids → so n' = so n → n' = n) (h1 : ∀ k, ids[k]? = some n → (∀ i, i < k → ids[i]? ≠ some n) → Q (nI k) S) (h2 : n ∉ ids → Q (-1) S) : k_X10_placeOf Q dp V (so n) S := by
  have hlen := vw_len g
  obtain ⟨g1, g2, g3, g4, g5⟩ := g
  unfold k_X10_placeOf k_X10_placeOf_2L
  refine lfp_cnt ids.length (fun k y => (∀ i, i < k → ids[i]? ≠ some n) ∧ y = (V, so n, nI k, S)) ?_ ⟨fun i z => absurd z (Nat.not_lt_zero i), rfl⟩
  rintro P k _ hk ⟨hp, rfl⟩ ih
  show k_X10_placeOf_2 Q dp _ V (so n) (nI k) S
  unfold k_X10_placeOf_2
  refine ⟨g1, hl, g2, g3.1, q_lsize g3 (pk_le hs.length k (fun z => ?_) (fun z => ?_))⟩
  · refine h2 (fun w => ?_)
    obtain ⟨i, hi⟩ := List.getElem?_of_mem w
    have := get_lt hi
    exact hp i (by omega) hi
  · obtain ⟨y, hy⟩ := get_ex z
    obtain ⟨n', hn'⟩ := get_ex (l := ids) (k := k) (by omega)
    obtain ⟨-, -, -, r, ho⟩ := g5 k y n' hy hn'
    refine ⟨g1, hl, g2, g3.1, q_lget g3 hy ⟨ho.1, ho.1, so n', ho.2.1, fun c => ?_, fun c => ?_⟩⟩
    · rintro _ rfl
      rw [nI_add]
      refine ih _ (by omega) ⟨fun i hi => ?_, rfl⟩
      rcases Nat.lt_or_ge i k with w | w
      · exact hp i w
      · obtain rfl : i = k := by omega
        rw [hn']
        intro e
        exact c (congrArg so (Option.some.inj e))
    · have e := hn n' (List.mem_of_getElem? hn') c
      exact h1 k (by rw [hn', e]) hp
theorem q_vholdingOf {Q : Option Nat → cS → Prop} {n : Nat} (g : vwT S dp so sd sg V hl m hs ids lv) (hn : ∀ n', n' ∈ ids → so n' = so n → n' = n) (h1 : ∀ (k y : Nat), ids[k]? = some n → hs[k]? = some y → Q (some y) S) (h2 : n ∉ ids → Q none S) : k_X10_holdingOf Q dp V (so n) S := by
  have hlen := vw_len g
  unfold k_X10_holdingOf
  refine ⟨g.1, q_vplaceOf g hn (fun k hk _ => ⟨g.1, ?_⟩) (fun hno => ⟨g.1, q_vatN g (fun k hk => ?_) ⟨fun _ => h2 hno, fun b e => nomatch e⟩⟩)⟩
  · obtain ⟨y, hy⟩ := get_ex (l := hs) (k := k) (by have := get_lt hk; omega)
    exact q_vat g hy ⟨fun e => (nomatch e), fun b e => (Option.some.inj e) ▸ h1 k y hk hy⟩
  · intro e
    have := nI_pos (n := k) (by omega)
    rw [← e] at this
    exact this (by decide)
theorem q_vlive {Q : Int32 → cS → Prop} (g : vwT S dp so sd sg V hl m hs ids lv) (h : Q (nI (sumL (fun n => cntB (lv n) (sg n).length) ids)) S) : k_X10_liveCount Q dp V S := by
  have hlen := vw_len g
  obtain ⟨g1, g2, g3, g4, g5⟩ := g
  unfold k_X10_liveCount k_X10_liveCount_4L
  refine lfp_cnt ids.length (fun k y => y = (V, nI (sumL (fun n => cntB (lv n) (sg n).length) (ids.take k)), nI k, S)) ?_ rfl
  rintro P k _ hk rfl ih
  show k_X10_liveCount_4 Q dp _ V (nI (sumL (fun n => cntB (lv n) (sg n).length) (ids.take k))) (nI k) S
  unfold k_X10_liveCount_4
  refine ⟨g1, hl, g2, g3.1, q_lsize g3 (pk_le hs.length k (fun z => ?_) (fun z => ?_))⟩
  · obtain rfl : k = ids.length := by omega
    rw [List.take_length]; exact h
  · obtain ⟨y, hy⟩ := get_ex z
    obtain ⟨n, hn⟩ := get_ex (l := ids) (k := k) (by omega)
    obtain ⟨-, -, -, r, ho⟩ := g5 k y n hy hn
    refine ⟨g1, hl, g2, g3.1, q_lget g3 hy ⟨ho.1, ho.1, q_liveCount ho ?_⟩⟩
    rw [nI_add]
    rintro _ rfl _ rfl
    rw [nI_add]
    refine ih _ (by omega) ?_
    rw [sumL_take_s hn]
theorem q_vdoc {Q : Option Nat → cS → Prop} {x : Int32} (g : vwT S dp so sd sg V hl m hs ids lv) (h1 : ∀ (k j n D : Nat) (d : Dc), ids[k]? = some n → (sd n)[j]? = some D → (sg n)[j]? = some d → lv n j = true → nI (dK d) = x → Q (some D) S) (h2 : (∀ (n j : Nat) (d : Dc), n ∈ ids → (sg n)[j]? = some d → lv n j = true → nI (dK d) ≠ x) → Q none S) : k_X10_liveDocument Q dp V x S := by
  have hlen := vw_len g
  obtain ⟨g1, g2, g3, g4, g5⟩ := g
  unfold k_X10_liveDocument k_X10_liveDocument_2L
  refine lfp_cnt ids.length (fun k y => (∀ (i n j : Nat) (d : Dc), i < k → ids[i]? = some n → (sg n)[j]? = some d → lv n j = true → nI (dK d) ≠ x) ∧ y = (V, x, nI k, S)) ?_ ⟨fun i n j d z => absurd z (Nat.not_lt_zero i), rfl⟩
  rintro P k _ hk ⟨hp, rfl⟩ ih
  show k_X10_liveDocument_2 Q dp _ V x (nI k) S
  unfold k_X10_liveDocument_2
  refine ⟨g1, hl, g2, g3.1, q_lsize g3 (pk_le hs.length k (fun z => ?_) (fun z => ?_))⟩
  · refine h2 (fun n j d hn hd hl hx => ?_)
    obtain ⟨i, hi⟩ := List.getElem?_of_mem hn
    have := get_lt hi
    exact hp i n j d (by omega) hi hd hl hx
  · obtain ⟨y, hy⟩ := get_ex z
    obtain ⟨n, hn⟩ := get_ex (l := ids) (k := k) (by omega)
    obtain ⟨gs, hN, -, r, ho⟩ := g5 k y n hy hn
    refine ⟨g1, hl, g2, g3.1, q_lget g3 hy ⟨ho.1, ho.1, q_liveAt ho gs rfl (fun j d hj hd hlv hx _ => ?_) (fun hno => ⟨fun _ => ?_, fun z => absurd rfl z⟩)⟩⟩
    · have hne : ¬ nI j = (-1 : Int32) := by
        intro e
        have := nI_pos (n := j) (by omega)
        rw [e] at this
        exact this (by decide)
      obtain ⟨s1, s2, s3, ⟨dl, md, s4, s5⟩, s6⟩ := gs
      obtain ⟨D, hD⟩ := get_ex (l := sd n) (k := j) (by omega)
      exact ⟨fun e => absurd e hne, fun _ => ⟨g1, hl, g2, g3.1, q_lget g3 hy ⟨ho.1, ho.1, so n, ho.2.1, s1, dl, s4, s5.1, q_lget s5 hD ⟨(s6 j D d hD hd).1, h1 k j n D d hn hD hd hlv hx⟩⟩⟩⟩
    · rintro _ rfl
      rw [nI_add]
      refine ih _ (by omega) ⟨fun i n' j d hi hn' hd hlv => ?_, rfl⟩
      rcases Nat.lt_or_ge i k with w | w
      · exact hp i n' j d w hn' hd hlv
      · obtain rfl : i = k := by omega
        obtain rfl : n = n' := Option.some.inj (hn.symm.trans hn')
        exact hno j d (get_lt hd) hd hlv
/-- a document is deleted in a view -/
theorem q_vkill {Q : Int32 → cS → Prop} {x : Int32} (g : vwT S dp so sd sg V hl m hs ids lv) (hnd : ids.Nodup) (hrow : ∀ (i j y z r : Nat), hs[i]? = some y → hs[j]? = some z → cr S 65 y = some r → cr S 65 z = some r → i = j)
    (h1 : ∀ (T : cS) (k j n y r : Nat) (d : Dc), ids[k]? = some n → hs[k]? = some y → cr S 65 y = some r → (sg n)[j]? = some d → lv n j = true → nI (dK d) = x → T = cSI S r j (bI true) → vwT T dp so sd sg V hl m hs ids (fun n' i => if n' = n ∧ i = j then false else lv n' i) → Q (bI true) T)
    (h2 : (∀ (n j : Nat) (d : Dc), n ∈ ids → (sg n)[j]? = some d → lv n j = true → nI (dK d) ≠ x) → Q (bI false) S) : k_X10_kill Q dp V x S := by
  have hlen := vw_len g
  obtain ⟨g1, g2, g3, g4, g5⟩ := g
  unfold k_X10_kill k_X10_kill_2L
  refine lfp_cnt ids.length (fun k y => (∀ (i n j : Nat) (d : Dc), i < k → ids[i]? = some n → (sg n)[j]? = some d → lv n j = true → nI (dK d) ≠ x) ∧ y = (V, x, nI k, S)) ?_ ⟨fun i n j d z => absurd z (Nat.not_lt_zero i), rfl⟩
  rintro P k _ hk ⟨hp, rfl⟩ ih
  show k_X10_kill_2 Q dp _ V x (nI k) S
  unfold k_X10_kill_2
  refine ⟨g1, hl, g2, g3.1, q_lsize g3 (pk_le hs.length k (fun z => ?_) (fun z => ?_))⟩
  · refine h2 (fun n j d hn hd hl hx => ?_)
    obtain ⟨i, hi⟩ := List.getElem?_of_mem hn
    have := get_lt hi
    exact hp i n j d (by omega) hi hd hl hx
  · obtain ⟨y, hy⟩ := get_ex z
    obtain ⟨n, hn⟩ := get_ex (l := ids) (k := k) (by omega)
    obtain ⟨gs, hN, -, r, ho⟩ := g5 k y n hy hn
    refine ⟨g1, hl, g2, g3.1, q_lget g3 hy ⟨ho.1, ho.1, q_kill ho gs rfl (fun T j d hj hd hlv hx _ eT gT => ⟨fun e => absurd e (by decide), fun _ => ?_⟩) (fun hno => ⟨fun _ => ?_, fun z => absurd rfl z⟩)⟩⟩
    · have hrA : cA S r 16 := ho.2.2.2.1
      have sT : cSub S T (fun z => z = r) := eT ▸ sub_SI rfl
      have nr : ∀ {a k : Nat}, cA S a k → k ≠ 16 → ¬ a = r := fun ha hk => cA_ne ha hrA hk
      have nlF : ∀ {a kk m' : Nat} {l : List Nat}, lsT S dp a kk l m' → ∀ z, lsF S dp a z → ¬ z = r := by
        intro a kk m' l ha z hz
        obtain ⟨l1, -, -, -, -, -, b, hb, hx⟩ := ha
        rcases hz with w | ⟨w, w2⟩
        · rw [w]; exact nr l1 (by decide)
        · obtain rfl : b = z := Option.some.inj (hb.symm.trans w)
          rcases hx with hx | hx
          · exact absurd hx.1 w2
          · exact nr hx.2.2.1 (by decide)
      refine h1 T k j n y r d hn hy ho.2.2.1 hd hlv hx eT ⟨sub_A1 sT g1, (sub_cr sT g1 (nr g1 (by decide))).trans g2, lsT_sub sT g3 (nlF g3), g4, fun i y' n' hy' hn' => ?_⟩
      obtain ⟨gs', hN', h1000, r', ho'⟩ := g5 i y' n' hy' hn'
      have gsT : sgT T dp (so n') n' (sd n') (sg n') := by
        obtain ⟨a1, a2, a3, ⟨dl, md, a4, a5⟩, a6⟩ := gs'
        exact ⟨sub_A1 sT a1, (sub_ci sT a1 (nr a1 (by decide))).trans a2, a3, ⟨dl, md, (sub_cr sT a1 (nr a1 (by decide))).trans a4, lsT_sub sT a5 (nlF a5)⟩, fun i D d hD hd => by
          obtain ⟨d1, d2, d3⟩ := a6 i D d hD hd
          exact ⟨sub_A1 sT d1, (sub_ci sT d1 (nr d1 (by decide))).trans d2, d3⟩⟩
      refine ⟨gsT, hN', h1000, r', ?_⟩
      by_cases e : i = k
      · subst e
        obtain rfl : n = n' := Option.some.inj (hn.symm.trans hn')
        obtain rfl : y = y' := Option.some.inj (hy.symm.trans hy')
        obtain rfl : r = r' := Option.some.inj (ho.2.2.1.symm.trans ho'.2.2.1)
        have : (fun i => if n = n ∧ i = j then false else lv n i) = (fun i => if i = j then false else lv n i) := by
          funext i; simp
        show hoT T y (so n) r (sg n).length (fun i => if n = n ∧ i = j then false else lv n i)
        rw [this]
        exact gT
      · have hnn : n' ≠ n := by
          intro e2
          subst e2
          have := (List.getElem?_inj (get_lt hn') hnd).mp (hn'.trans hn.symm)
          exact e this
        have hrr : ¬ r' = r := fun e2 => e (hrow i k y' y r hy' hy (e2 ▸ ho'.2.2.1) ho.2.2.1)
        have : (fun i => if n' = n ∧ i = j then false else lv n' i) = lv n' := by
          funext i; simp [hnn]
        show hoT T y' (so n') r' (sg n').length (fun i => if n' = n ∧ i = j then false else lv n' i)
        rw [this]
        exact hoT_sub sT ho' (nr ho'.1 (by decide)) hrr
    · rintro _ rfl
      rw [nI_add]
      refine ih _ (by omega) ⟨fun i n' j d hi hn' hd hlv => ?_, rfl⟩
      rcases Nat.lt_or_ge i k with w | w
      · exact hp i n' j d w hn' hd hlv
      · obtain rfl : i = k := by omega
        obtain rfl : n = n' := Option.some.inj (hn.symm.trans hn')
        exact hno j d (get_lt hd) hd hlv
theorem tier_s {x : Nat} (h : 3 ≤ x) (h2 : x ≤ 100) : tierN x = tierN (x / 3) + 1 := by
  unfold tierN
  repeat' split
  all_goals omega
theorem q_tier {Q : Int32 → cS → Prop} {A n : Nat} {ds : List Nat} {L : List Dc} (g : sgT S dp A n ds L) (hN : L.length ≤ 100) (h : Q (nI (tierN L.length)) S) : k_X8_tier Q dp A S := by
  unfold k_X8_tier
  refine ⟨g.1, q_sgSize g ?_⟩
  unfold k_X8_tier_7L
  refine lfp_ind (I := fun y => ∃ j x, j + tierN x = tierN L.length ∧ x ≤ 100 ∧ y = (nI j, nI x, S)) (μ := fun y => y.2.1.toNatClampNeg) ?_ ⟨0, L.length, Nat.zero_add _, hN, rfl⟩
  rintro P _ ⟨j, x, e, hx, rfl⟩ ih
  show k_X8_tier_7 Q dp _ (nI j) (nI x) S
  unfold k_X8_tier_7
  refine pk_lt x 3 (fun z => ?_) (fun z => ?_)
  · have : tierN x = 0 := if_pos z
    rw [this, Nat.add_zero] at e
    rw [e]; exact h
  · rw [nI_add, pk_div (by omega) (by decide) (by decide)]
    rintro _ rfl _ rfl
    have := tier_s z hx
    refine ih _ ⟨j + 1, x / 3, by omega, by omega, rfl⟩ ?_
    show (nI (x / 3)).toNatClampNeg < (nI x).toNatClampNeg
    rw [nI_clamp (by omega), nI_clamp (by omega)]; omega
/-- the tiers of a view's segments at three places are the same -/
def dueI (sg : Nat → List Dc) (ids : List Nat) (k : Nat) : Prop := ∃ a b c : Nat, ids[k]? = some a ∧ ids[k + 1]? = some b ∧ ids[k + 2]? = some c ∧ tierN (sg b).length = tierN (sg a).length ∧ tierN (sg c).length = tierN (sg a).length
theorem q_vdue {Q : Int32 → cS → Prop} (g : vwT S dp so sd sg V hl m hs ids lv) (h1 : ∀ k, dueI sg ids k → (∀ i, i < k → ¬ dueI sg ids i) → Q (nI k) S) (h2 : (∀ i, ¬ dueI sg ids i) → Q (-1) S) : k_X10_duePlace Q dp V S := by
  have hlen := vw_len g
  obtain ⟨g1, g2, g3, g4, g5⟩ := g
  have tl : ∀ n, tierN n ≤ 4 := fun n => by
    unfold tierN
    repeat' split
    all_goals omega
  unfold k_X10_duePlace k_X10_duePlace_2L
  refine lfp_cnt ids.length (fun k y => (∀ i, i < k → ¬ dueI sg ids i) ∧ y = (V, nI k, S)) ?_ ⟨fun i z => absurd z (Nat.not_lt_zero i), rfl⟩
  rintro P k _ hk ⟨hp, rfl⟩ ih
  show k_X10_duePlace_2 Q dp _ V (nI k) S
  have nxt : k < ids.length → ¬ dueI sg ids k → k_X10_duePlace_81 Q dp (fun b0 b1 S => P (b0, b1, S)) V (nI k) S := by
    intro hlt hno
    unfold k_X10_duePlace_81
    rintro _ rfl
    rw [nI_add]
    refine ih _ hlt ⟨fun i hi => ?_, rfl⟩
    rcases Nat.lt_or_ge i k with w | w
    · exact hp i w
    · obtain rfl : i = k := by omega
      exact hno
  unfold k_X10_duePlace_2
  rw [nI_add, nI_add, nI_add]
  refine ⟨g1, hl, g2, g3.1, q_lsize g3 (pk_lt hs.length (k + 3) (fun z => ?_) (fun z => ?_))⟩
  · refine h2 (fun i hd => ?_)
    obtain ⟨a, b, c, ha, hb, hc, -⟩ := id hd
    have := get_lt hc
    exact hp i (by omega) hd
  · obtain ⟨y0, hy0⟩ := get_ex (l := hs) (k := k) (by omega)
    obtain ⟨y1, hy1⟩ := get_ex (l := hs) (k := k + 1) (by omega)
    obtain ⟨y2, hy2⟩ := get_ex (l := hs) (k := k + 2) (by omega)
    obtain ⟨a, ha⟩ := get_ex (l := ids) (k := k) (by omega)
    obtain ⟨b, hb⟩ := get_ex (l := ids) (k := k + 1) (by omega)
    obtain ⟨c, hc⟩ := get_ex (l := ids) (k := k + 2) (by omega)
    obtain ⟨sa, na, -, r0, ho0⟩ := g5 k y0 a hy0 ha
    obtain ⟨sb, nb, -, r1, ho1⟩ := g5 _ y1 b hy1 hb
    obtain ⟨sc, nc, -, r2, ho2⟩ := g5 _ y2 c hy2 hc
    have t0 := tl (sg a).length
    have t1 := tl (sg b).length
    have t2 := tl (sg c).length
    refine ⟨g1, hl, g2, g3.1, q_lget g3 hy0 ⟨ho0.1, ho0.1, so a, ho0.2.1, sa.1, q_tier sa na ⟨g1, hl, g2, g3.1, q_lget g3 hy1 ⟨ho1.1, ho1.1, so b, ho1.2.1, sb.1, q_tier sb nb ?_⟩⟩⟩⟩
    refine w_ne (tierN (sg b).length) (tierN (sg a).length) (fun e => nxt (by omega) ?_) (fun e => ⟨g1, hl, g2, g3.1, q_lget g3 hy2 ⟨ho2.1, ho2.1, so c, ho2.2.1, sc.1, q_tier sc nc ?_⟩⟩)
    · rintro ⟨a', b', c', ha', hb', hc', e1, e2⟩
      obtain rfl := Option.some.inj (ha.symm.trans ha')
      obtain rfl := Option.some.inj (hb.symm.trans hb')
      exact e e1
    · refine w_ne (tierN (sg c).length) (tierN (sg a).length) (fun e2 => nxt (by omega) ?_) (fun e2 => h1 k ⟨a, b, c, ha, hb, hc, e, e2⟩ hp)
      rintro ⟨a', b', c', ha', hb', hc', e1, e3⟩
      obtain rfl := Option.some.inj (ha.symm.trans ha')
      obtain rfl := Option.some.inj (hc.symm.trans hc')
      exact e2 e3
end VW
