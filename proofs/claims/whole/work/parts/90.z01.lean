/-! the reference: questions about words -/
section HW
variable {v v' : Nat → Int32} {f f' : Nat → Nat → Int32} {g g' : Nat → Nat → Int64} {l : LGt} {made dn op : Nat} {sg : Nat → List Dc} {hd : Nat → Nat → Nat} {ids : List Nat} {lv : Nat → Nat → Bool} {off : Bool} {WL : List Int64}
theorem p_isField {Q : QI} {x : Int32} (h0 : (∀ k, k < 2 → x ≠ nI k) → Q (bI false) v f g) (h1 : ∀ k, k < 2 → x = nI k → Q (bI true) v f g) : r_isField Q x v f g := by
  unfold r_isField
  refine p_in ?_
  cases e : inB x (nI 0) (nI 1) with
  | false =>
    refine ⟨⟨_, rfl⟩, h0 (fun k hk hx => ?_)⟩
    rw [hx, inB_N (by omega) (by omega) (by omega)] at e
    simp [inN] at e
    omega
  | true =>
    obtain ⟨k, hk, hx⟩ := inB_of (by decide) e
    exact ⟨⟨_, rfl⟩, h1 k (by omega) hx⟩
/-- words of the segments -/
abbrev Wps := Nat → Nat → List (Int64 × List (Nat × Nat))
def wpOk (sg : Nat → List Dc) (made : Nat) (wp : Wps) : Prop := ∀ n fl, n < made → fl < 2 → wOk (wp n fl) (fun c => pstOf (tlD (sg n) fl) c (sg n).length)
/-- all tokens are in a list -/
def tkIn (sg : Nat → List Dc) (made : Nat) (WL : List Int64) : Prop := WL.length ≤ 2000 ∧ ∀ n fl j p x, n < made → fl < 2 → (x, p) ∈ tlD (sg n) fl j → x ∈ WL
variable {wp : Wps}
theorem fdW_wp {n fl : Nat} {T : Int64 → Prop} (hw : wOk (wp n fl) (fun c => pstOf (tlD (sg n) fl) c (sg n).length)) (hT : ∀ x, T x ↔ ∃ j p, j < (sg n).length ∧ (x, p) ∈ tlD (sg n) fl j) (h : fdW v g T) : v 55 = nI (wp n fl).length ∧ ∀ i q, (wp n fl)[i]? = some q → g 35 i = q.1 := by
  obtain ⟨W, h1, h2, h3, h4⟩ := h
  have e : W = (wp n fl).map Prod.fst := by
    refine srt_uniq (fun x : Int64 => x.toInt) _ _ h3 ?_ (fun x => ?_)
    · rw [List.pairwise_map]; exact srtW_pw hw.1
    · rw [h4 x, hT x, List.mem_map]
      constructor
      · rintro ⟨j, p, hj, hx⟩
        obtain ⟨i, q, hq, e⟩ := hw.2.2 x (pst_mem hj hx)
        exact ⟨q, List.mem_of_getElem? hq, e⟩
      · rintro ⟨q, hq, rfl⟩
        exact pst_ne ((wOk_mem hw q).mp hq).2
  subst e
  refine ⟨by rw [h1, List.length_map], fun i q hq => h2 i q.1 ?_⟩
  rw [List.getElem?_map, hq]; rfl
theorem p_hasWords {Q : QI} {x y : Int32} (h98 : v 98 = bI off) (hl : rLg v g l) (hs : rSg l v f g made dn sg hd) (hi : rIx v f made sg ids lv) (hwp : wpOk sg made wp) (hW : tkIn sg made WL) (h0 : (off = true ∨ (∀ k, k < ids.length → x ≠ nI k) ∨ ∀ k, k < 2 → y ≠ nI k) → Q (bI false) v f g) (h1 : ∀ k n fl v' g', off = false → ids[k]? = some n → n < made → x = nI k → fl < 2 → y = nI fl → rF [55] [] [35] v f g v' f g' → v' 55 = nI (wp n fl).length → (∀ i q, (wp n fl)[i]? = some q → g' 35 i = q.1) → Q (bI true) v' f g') : r_hasWords Q x y v f g := by
  have i2 := hi.2.1
  have no : (off = true ∨ (∀ k, k < ids.length → x ≠ nI k) ∨ ∀ k, k < 2 → y ≠ nI k) → r_hasWords_20 Q x y v f g := fun q => by
    unfold r_hasWords_20 r_hasWords_21
    exact ⟨fun _ => ⟨⟨false, rfl⟩, h0 q⟩, fun c => absurd rfl c⟩
  unfold r_hasWords
  refine p_isPlace h98 hi (fun q => ⟨fun _ => no (q.elim Or.inl (fun q => Or.inr (Or.inl q))), fun c => absurd rfl c⟩) (fun k e hk hx => ⟨fun c => absurd c (by decide), fun _ => ?_⟩)
  refine p_isField (fun q => ⟨fun _ => no (Or.inr (Or.inr q)), fun c => absurd rfl c⟩) (fun fl hf hy => ⟨fun c => absurd c (by decide), fun _ => ?_⟩)
  obtain ⟨n, hn⟩ := get_ex hk
  obtain ⟨t1, t2⟩ := hi.2.2.1 k n hn
  unfold r_hasWords_21
  rw [hx, nI_clamp (show k < 2 ^ 31 by omega), t1, hy]
  refine ⟨fun c => absurd c (by decide), fun _ => ⟨pk_in k 202 (by omega), ?_⟩⟩
  refine p_finds hl hs t2 hf (fun j p x hx => hW.2 n fl j p x t2 hf hx) hW.1 (fun v' g' a1 a2 a3 => ?_)
  obtain ⟨b1, b2⟩ := fdW_wp (wp := wp) (hwp n fl t2 hf) (fun x => Iff.rfl) a3
  exact ⟨⟨true, rfl⟩, h1 k n fl v' g' e hn t2 hx hf hy ⟨fun i hi => a1 i (fun e => hi (by rw [e]; decide)), fun _ _ => rfl, fun n hn => a2 n (fun e => hn (by rw [e]; decide))⟩ b1 b2⟩
theorem p_words {Q : QI} {x y : Int32} (h98 : v 98 = bI off) (hl : rLg v g l) (hs : rSg l v f g made dn sg hd) (hi : rIx v f made sg ids lv) (hwp : wpOk sg made wp) (hW : tkIn sg made WL) (hX : (off = true ∨ (∀ k, k < ids.length → x ≠ nI k) ∨ ∀ k, k < 2 → y ≠ nI k) → Q (nI 0) (upd v 99 (nI 1)) f g) (h : ∀ k n fl v' g', off = false → ids[k]? = some n → n < made → x = nI k → fl < 2 → y = nI fl → rF [99, 55] [] [35] v f g v' f g' → v' 99 = nI 0 → Q (nI (wp n fl).length) v' f g') : r_words Q x y v f g := by
  unfold r_words
  refine p_hasWords h98 hl hs hi hwp hW (fun q => goF (b1 := false) ⟨fun _ => hX q, fun c => absurd rfl c⟩) (fun k n fl v' g' e hn t2 hx hf hy hF b1 b2 => goF (b1 := true) ⟨fun c => absurd c (by decide), fun _ => ?_⟩)
  have e55 : (upd v' 99 (if true = true then nI 0 else nI 1)) 55 = nI (wp n fl).length := (upd_n (by decide)).trans b1
  rw [e55]
  exact h k n fl _ g' e hn t2 hx hf hy ⟨fun i hi => (upd_n (fun e => hi (by rw [e]; decide))).trans (hF.1 i (fun q => hi (by rw [List.mem_singleton.mp q]; decide))), fun _ _ => rfl, hF.2.2⟩ upd_at
/-- a word is named that isn't there -/
def noWd (sg : Nat → List Dc) (ids : List Nat) (wp : Wps) (off : Bool) (x y z : Int32) : Prop := off = true ∨ (∀ k, k < ids.length → x ≠ nI k) ∨ (∀ k, k < 2 → y ≠ nI k) ∨ ∃ k n fl, ids[k]? = some n ∧ x = nI k ∧ fl < 2 ∧ y = nI fl ∧ ∀ j, j < (wp n fl).length → z ≠ nI j
theorem wp_len {n fl : Nat} (hwp : wpOk sg made wp) (hW : tkIn sg made WL) (hn : n < made) (hf : fl < 2) : (wp n fl).length ≤ 2000 := by
  have hw := hwp n fl hn hf
  have nd : ((wp n fl).map Prod.fst).Nodup := pw_nd (by rw [List.pairwise_map]; exact srtW_pw hw.1)
  have := nd_len (m := WL) nd (fun x hx => by
    obtain ⟨q, hq, rfl⟩ := List.mem_map.mp hx
    obtain ⟨j, p, hj, hm⟩ := pst_ne ((wOk_mem hw q).mp hq).2
    exact hW.2 n fl j p q.1 hn hf hm)
  rw [List.length_map] at this
  have := hW.1
  omega
theorem p_hasWord {Q : QI} {x y z : Int32} (h98 : v 98 = bI off) (hl : rLg v g l) (hs : rSg l v f g made dn sg hd) (hi : rIx v f made sg ids lv) (hwp : wpOk sg made wp) (hW : tkIn sg made WL) (h0 : noWd sg ids wp off x y z → ∀ v' g', rF [55] [] [35] v f g v' f g' → Q (bI false) v' f g') (h1 : ∀ k n fl j q v' g', off = false → ids[k]? = some n → n < made → x = nI k → fl < 2 → y = nI fl → (wp n fl)[j]? = some q → z = nI j → rF [55] [] [35] v f g v' f g' → v' 55 = nI (wp n fl).length → (∀ i q, (wp n fl)[i]? = some q → g' 35 i = q.1) → Q (bI true) v' f g') : r_hasWord Q x y z v f g := by
  unfold r_hasWord
  refine p_hasWords h98 hl hs hi hwp hW (fun q => ⟨fun _ => h0 (q.elim Or.inl (fun q => Or.inr (q.elim Or.inl (fun q => Or.inr (Or.inl q))))) v g rF_rf, fun c => absurd rfl c⟩) (fun k n fl v' g' e hn t2 hx hf hy hF b1 b2 => ⟨fun c => absurd c (by decide), fun _ => ?_⟩)
  have := wp_len hwp hW t2 hf
  rw [b1]
  refine p_inL (by omega) (fun hno => ⟨fun _ => h0 (Or.inr (Or.inr (Or.inr ⟨k, n, fl, hn, hx, hf, hy, hno⟩))) v' g' hF, fun c => absurd rfl c⟩) (fun j hj hz => ⟨fun c => absurd c (by decide), fun _ => ?_⟩)
  obtain ⟨q, hq⟩ := get_ex hj
  exact h1 k n fl j q v' g' e hn t2 hx hf hy hq hz hF b1 b2
theorem shN_sym {a b : Nat} {k : Nat} : (!(decide (0 < dg a k) && (dg a k == dg b k))) = !(decide (0 < dg b k) && (dg a k == dg b k)) := by
  by_cases c : dg a k = dg b k
  · rw [c]
  · have : (dg a k == dg b k) = false := by simpa using c
    rw [this, Bool.and_false, Bool.and_false]
theorem p_sharedBy {Q : QI} {j N : Nat} {W : Nat → Nat} (hp : mPow g) (hN : N ≤ 2000) (hg : ∀ i, i < N → g 35 i = lN (W i) ∧ W i < 2 ^ 63) (hj : j < N) (h : Q (nI (shA W j)) v f g) : r_sharedBy Q (nI j) v f g := by
  unfold r_sharedBy r_sharedBy_2L
  have jc : (nI j).toNatClampNeg = j := nI_clamp (by omega)
  cases j with
  | zero =>
    refine fun P hP => hP _ ?_
    show r_sharedBy_2 Q _ (nI 0) (nI 0) v f g
    unfold r_sharedBy_2
    exact ⟨fun _ => h, fun c => absurd (show nI 0 ≤ 0 by decide) c⟩
  | succ j =>
    have shE : shA W (j + 1) = shN (W j) (W (j + 1)) := by
      unfold shA
      rw [if_neg (by omega), Nat.add_sub_cancel]
    obtain ⟨a1, a2⟩ := hg j (by omega)
    obtain ⟨b1, b2⟩ := hg (j + 1) hj
    refine lfp_cnt 12 (fun k y => (∀ i, i < k → (!(decide (0 < dg (W j) i) && (dg (W j) i == dg (W (j + 1)) i))) = false) ∧ y = (nI (j + 1), nI k, v, f, g)) ?_ ⟨fun i hi => absurd hi (Nat.not_lt_zero i), rfl⟩
    rintro P k _ hk ⟨lo, rfl⟩ ih
    show r_sharedBy_2 Q _ (nI (j + 1)) (nI k) v f g
    unfold r_sharedBy_2
    rw [jc, b1, pk_sub (by omega), Nat.add_sub_cancel, nI_clamp (show j < 2 ^ 31 by omega)]
    refine ⟨fun c => absurd c (nI_nle (by omega) (by omega)), fun _ => pk_le 12 k (fun z => ?_) (fun z => ⟨pk_in (j + 1) 2200 (by omega), ?_⟩)⟩
    · obtain rfl : k = 12 := by omega
      rw [shE] at h
      unfold shN at h
      rw [fst0_all lo] at h
      exact h
    have stop : (!(decide (0 < dg (W j) k) && (dg (W j) k == dg (W (j + 1)) k))) = true → Q (nI k) v f g := by
      intro e
      rw [shE] at h
      unfold shN at h
      rw [fst0_eq lo e z] at h
      exact h
    refine p_at b2 z hp ?_
    have d37 := dg_lt (W (j + 1)) k
    refine pk_le (dg (W (j + 1)) k) 0 (fun c => stop ?_) (fun c => ⟨pk_in (j + 1) 2200 (by omega), ?_⟩)
    · rw [shN_sym, decide_eq_false (by omega), Bool.false_and]; rfl
    rw [b1]
    refine p_at b2 z hp ⟨pk_in j 2200 (by omega), ?_⟩
    rw [a1]
    refine p_at a2 z hp ?_
    have d37' := dg_lt (W j) k
    refine w_ne (dg (W (j + 1)) k) (dg (W j) k) (fun c2 => stop ?_) (fun c2 => ?_)
    · have : (dg (W j) k == dg (W (j + 1)) k) = false := by simpa using fun e => c2 e.symm
      rw [this, Bool.and_false]; rfl
    · rintro _ rfl
      rw [nI_add]
      refine ih _ z ⟨fun i hi => ?_, rfl⟩
      by_cases e : i = k
      · subst e
        rw [← c2, decide_eq_true c]
        simp
      · exact lo i (by omega)
/-- words' numbers -/
def wpN (wp : Wps) (made : Nat) : Prop := ∀ n fl, n < made → fl < 2 → ∀ (i : Nat) (q : Int64 × List (Nat × Nat)), (wp n fl)[i]? = some q → ∃ w, w < 37 ^ 12 ∧ q.1 = lN w
def Wn (W : List (Int64 × List (Nat × Nat))) (i : Nat) : Nat := (W.getD i (0, [])).1.toInt.toNat
theorem Wn_of {n fl i : Nat} {q : Int64 × List (Nat × Nat)} (hN : wpN wp made) (hn : n < made) (hf : fl < 2) (hq : (wp n fl)[i]? = some q) : q.1 = lN (Wn (wp n fl) i) ∧ Wn (wp n fl) i < 2 ^ 63 := by
  obtain ⟨w, h1, h2⟩ := hN n fl hn hf i q hq
  have : Wn (wp n fl) i = w := by
    unfold Wn
    rw [List.getD_eq_getElem?_getD, hq]
    show q.1.toInt.toNat = w
    rw [h2, lN_nat (by omega)]
  rw [this]
  exact ⟨h2, by omega⟩
theorem mPow_fr (h : g' 1 = g 1) (hp : mPow g) : mPow g' := by
  unfold mPow
  rw [h]; exact hp
theorem p_shared {Q : QI} {x y z : Int32} (hp : mPow g) (h98 : v 98 = bI off) (hl : rLg v g l) (hs : rSg l v f g made dn sg hd) (hi : rIx v f made sg ids lv) (hwp : wpOk sg made wp) (hN : wpN wp made) (hW : tkIn sg made WL) (hX : noWd sg ids wp off x y z → ∀ v' g', rF [99, 55] [] [35] v f g v' f g' → v' 99 = nI 1 → Q (nI 0) v' f g') (h : ∀ k n fl j q v' g', off = false → ids[k]? = some n → n < made → x = nI k → fl < 2 → y = nI fl → (wp n fl)[j]? = some q → z = nI j → rF [99, 55] [] [35] v f g v' f g' → v' 99 = nI 0 → Q (nI (shA (Wn (wp n fl)) j)) v' f g') : r_shared Q x y z v f g := by
  have fr : ∀ {v' g'} (t : Int32), rF [55] [] [35] v f g v' f g' → rF [99, 55] [] [35] v f g (upd v' 99 t) f g' := fun t hF => ⟨fun i hi => (upd_n (fun e => hi (by rw [e]; decide))).trans (hF.1 i (fun q => hi (by rw [List.mem_singleton.mp q]; decide))), fun _ _ => rfl, hF.2.2⟩
  unfold r_shared
  refine p_hasWord h98 hl hs hi hwp hW (fun q v' g' hF => goF (b1 := false) ⟨fun _ => hX q _ g' (fr _ hF) upd_at, fun c => absurd rfl c⟩) (fun k n fl j q v' g' e hn t2 hx hf hy hq hz hF b1 b2 => goF (b1 := true) ⟨fun c => absurd c (by decide), fun _ => ?_⟩)
  rw [hz]
  refine p_sharedBy (N := (wp n fl).length) (W := Wn (wp n fl)) (mPow_fr (hF.2.2 1 (by decide)) hp) (wp_len hwp hW t2 hf) (fun i hi' => ?_) (get_lt hq) (h k n fl j q _ g' e hn t2 hx hf hy hq hz (fr _ hF) upd_at)
  obtain ⟨r, hr⟩ := get_ex hi'
  rw [b2 i r hr]
  exact Wn_of hN t2 hf hr
theorem p_wordBytes {Q : QI} {x y : Int32} (hp : mPow g) (h98 : v 98 = bI off) (hl : rLg v g l) (hs : rSg l v f g made dn sg hd) (hi : rIx v f made sg ids lv) (hwp : wpOk sg made wp) (hN : wpN wp made) (hW : tkIn sg made WL) (hX : (off = true ∨ (∀ k, k < ids.length → x ≠ nI k) ∨ ∀ k, k < 2 → y ≠ nI k) → Q (nI 0) (upd v 99 (nI 1)) f g) (h : ∀ k n fl v' g', off = false → ids[k]? = some n → n < made → x = nI k → fl < 2 → y = nI fl → rF [99, 55] [] [35] v f g v' f g' → v' 99 = nI 0 → Q (nI (wbN (Wn (wp n fl)) (wp n fl).length)) v' f g') : r_wordBytes Q x y v f g := by
  unfold r_wordBytes
  refine p_hasWords h98 hl hs hi hwp hW (fun q => goF (b1 := false) ?_) (fun k n fl v' g' e hn t2 hx hf hy hF b1 b2 => goF (b1 := true) ?_)
  · unfold r_wordBytes_19L
    refine fun P hP => hP _ ?_
    show r_wordBytes_19 Q _ (nI 0) (bI false) (nI 0) (upd v 99 (nI 1)) f g
    unfold r_wordBytes_19
    exact ⟨fun _ => hX q, fun c => absurd rfl c⟩
  · have len := wp_len hwp hW t2 hf
    have b55 : upd v' 99 (nI 0) 55 = nI (wp n fl).length := (upd_n (by decide)).trans b1
    unfold r_wordBytes_19L
    refine lfp_cnt (wp n fl).length (fun i y => y = (nI (wbN (Wn (wp n fl)) i), bI true, nI i, upd v' 99 (nI 0), f, g')) ?_ rfl
    rintro P i _ hi' rfl ih
    show r_wordBytes_19 Q _ (nI (wbN (Wn (wp n fl)) i)) (bI true) (nI i) (upd v' 99 (nI 0)) f g'
    unfold r_wordBytes_19
    rw [b55]
    refine ⟨fun c => absurd c (by decide), fun _ => pk_le (wp n fl).length i (fun z => ?_) (fun z => ⟨pk_in i 2200 (by omega), ?_⟩)⟩
    · obtain rfl : i = (wp n fl).length := by omega
      exact h k n fl _ g' e hn t2 hx hf hy ⟨fun i hi => (upd_n (fun e => hi (by rw [e]; decide))).trans (hF.1 i (fun q => hi (by rw [List.mem_singleton.mp q]; decide))), fun _ _ => rfl, hF.2.2⟩ upd_at
    obtain ⟨q, hq⟩ := get_ex z
    obtain ⟨c1, c2⟩ := Wn_of hN t2 hf hq
    have hp' := mPow_fr (hF.2.2 1 (by decide)) hp
    rw [nI_clamp (show i < 2 ^ 31 by omega), b2 i q hq, c1]
    refine p_length c2 hp' (p_sharedBy (N := (wp n fl).length) (W := Wn (wp n fl)) hp' len (fun a ha => ?_) z ?_)
    · obtain ⟨r, hr⟩ := get_ex ha
      rw [b2 a r hr]
      exact Wn_of hN t2 hf hr
    · have shl : shA (Wn (wp n fl)) i ≤ 2 + lnW (Wn (wp n fl) i) := by
        cases i with
        | zero => exact Nat.zero_le _
        | succ i =>
          have e : shA (Wn (wp n fl)) (i + 1) = shN (Wn (wp n fl) i) (Wn (wp n fl) (i + 1)) := by
            unfold shA
            rw [if_neg (by omega), Nat.add_sub_cancel]
          rw [e]
          by_cases c : shN (Wn (wp n fl) i) (Wn (wp n fl) (i + 1)) = 0
          · omega
          · -- the signs that are shared are signs of the word
            have hle := fst0_le (fun k => !(decide (0 < dg (Wn (wp n fl) i) k) && (dg (Wn (wp n fl) i) k == dg (Wn (wp n fl) (i + 1)) k))) 12
            have key : ∀ j, j < shN (Wn (wp n fl) i) (Wn (wp n fl) (i + 1)) → 0 < dg (Wn (wp n fl) (i + 1)) j := by
              intro j hj
              have h0 : (!(decide (0 < dg (Wn (wp n fl) i) j) && (dg (Wn (wp n fl) i) j == dg (Wn (wp n fl) (i + 1)) j))) = false := fst0_pre (q := fun k => !(decide (0 < dg (Wn (wp n fl) i) k) && (dg (Wn (wp n fl) i) k == dg (Wn (wp n fl) (i + 1)) k))) hj
              rw [Bool.not_eq_false', Bool.and_eq_true, decide_eq_true_iff, beq_iff_eq] at h0
              omega
            by_cases c2 : lnW (Wn (wp n fl) (i + 1)) < shN (Wn (wp n fl) i) (Wn (wp n fl) (i + 1))
            · have := key _ c2
              have := lnW_end (w := Wn (wp n fl) (i + 1)) (by have : shN (Wn (wp n fl) i) (Wn (wp n fl) (i + 1)) ≤ 12 := hle; omega)
              omega
            · omega
      rintro _ rfl _ rfl
      rw [nI_add, pk_sub shl, nI_add, nI_add]
      exact ih _ z rfl
theorem dgI_in {w : Nat} {t : Int32} (h0 : inB t (nI 0) (nI 11) = false) : dgI w t = 0 := by
  unfold dgI
  by_cases c : t < 0
  · rw [if_pos c]
  · rw [if_neg c]
    by_cases c2 : t < nI 12
    · obtain ⟨k, hk, hx⟩ := nI_of c
      rw [hx] at c2 h0
      have k12 := (nI_ltI hk (show 12 < 2 ^ 31 by decide)).mp c2
      rw [inB_N (by omega) (by omega) (by omega)] at h0
      simp [inN] at h0
      omega
    · rw [if_neg c2]
theorem p_signAt {Q : QI} {x y z t : Int32} (hp : mPow g) (h98 : v 98 = bI off) (hl : rLg v g l) (hs : rSg l v f g made dn sg hd) (hi : rIx v f made sg ids lv) (hwp : wpOk sg made wp) (hN : wpN wp made) (hW : tkIn sg made WL) (hX : noWd sg ids wp off x y z → ∀ v' g', rF [99, 55] [] [35] v f g v' f g' → v' 99 = nI 1 → Q (nI 32) v' f g') (h : ∀ k n fl j q v' g', off = false → ids[k]? = some n → n < made → x = nI k → fl < 2 → y = nI fl → (wp n fl)[j]? = some q → z = nI j → rF [99, 55] [] [35] v f g v' f g' → v' 99 = nI 0 → Q (nI (leN (Wn (wp n fl) j) t)) v' f g') : r_signAt Q x y z t v f g := by
  have fr : ∀ {v' g'} (t : Int32), rF [55] [] [35] v f g v' f g' → rF [99, 55] [] [35] v f g (upd v' 99 t) f g' := fun t hF => ⟨fun i hi => (upd_n (fun e => hi (by rw [e]; decide))).trans (hF.1 i (fun q => hi (by rw [List.mem_singleton.mp q]; decide))), fun _ _ => rfl, hF.2.2⟩
  unfold r_signAt
  refine p_hasWord h98 hl hs hi hwp hW (fun q v' g' hF => goF (b1 := false) ⟨fun c => absurd rfl c, fun _ => ⟨isC_n (by decide), hX q _ g' (fr _ hF) upd_at⟩⟩) (fun k n fl j q v' g' e hn t2 hx hf hy hq hz hF b1 b2 => goF (b1 := true) ⟨fun _ => ?_, fun c => absurd c (by decide)⟩)
  have fin := h k n fl j q _ g' e hn t2 hx hf hy hq hz (fr (nI 0) hF) upd_at
  obtain ⟨c1, c2⟩ := Wn_of hN t2 hf hq
  have jl := get_lt hq
  have len := wp_len hwp hW t2 hf
  have main : ∀ d : Nat, d = dgI (Wn (wp n fl) j) t → r_signAt_46 Q (nI d) (upd v' 99 (nI 0)) f g' := by
    intro d hd'
    have d37 := dgI_lt (Wn (wp n fl) j) t
    unfold leN at fin
    rw [← hd'] at fin d37
    unfold r_signAt_46 r_signAt_83
    refine w_nz d (fun c => pk_lt 10 d (fun c2 => ?_) (fun c2 => ?_)) (fun c => ?_)
    · rw [if_neg (by omega), if_neg (by omega)] at fin
      rw [nI_add, pk_sub (by omega), c16 (by omega)]
      exact ⟨isC_n (by omega), fin⟩
    · rw [if_neg (by omega), if_pos (by omega)] at fin
      rw [nI_add, pk_sub (by omega), c16 (by omega)]
      exact ⟨isC_n (by omega), fin⟩
    · rw [if_pos c] at fin
      exact ⟨isC_n (by decide), fin⟩
  refine p_in ?_
  cases e2 : inB t (nI 0) (nI 11) with
  | false => exact ⟨fun _ => main 0 (dgI_in e2).symm, fun c => absurd rfl c⟩
  | true =>
    obtain ⟨i, hi', ht⟩ := inB_of (by decide) e2
    refine ⟨fun c => absurd c (by decide), fun _ => ?_⟩
    rw [hz, ht, nI_clamp (show j < 2 ^ 31 by omega), b2 j q hq, c1]
    refine ⟨pk_in j 2200 (by omega), p_at c2 (by omega) (mPow_fr (hF.2.2 1 (by decide)) hp) (main _ ?_)⟩
    rw [ht, dgI_N (by omega)]
end HW
