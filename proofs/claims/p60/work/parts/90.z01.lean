/-! the reference: questions about words -/
section HW
variable {v v' : Nat → Int32} {f f' : Nat → Nat → Int32} {g g' : Nat → Nat → Int64} {l : LGt} {made dn op : Nat} {sg : Nat → List Dc} {hd : Nat → Nat → Nat} {ids : List Nat} {lv : Nat → Nat → Bool} {off : Bool} {WL : List Int64}
/-- words of the segments -/
abbrev Wps := Nat → Nat → List (Int64 × List (Nat × Nat))
def wpOk (sg : Nat → List Dc) (made : Nat) (wp : Wps) : Prop := ∀ n fl, n < made → fl < 2 → wOk (wp n fl) (fun c => pstOf (tlD (sg n) fl) c (sg n).length)
/-- all tokens are in a list -/
def tkIn (sg : Nat → List Dc) (made : Nat) (WL : List Int64) : Prop := WL.length ≤ 2000 ∧ ∀ n fl j p x, n < made → fl < 2 → (x, p) ∈ tlD (sg n) fl j → x ∈ WL
variable {wp : Wps}
theorem fdW_wp {n fl : Nat} {T : Int64 → Prop} (hw : wOk (wp n fl) (fun c => pstOf (tlD (sg n) fl) c (sg n).length)) (hT : ∀ x, T x ↔ ∃ j p, j < (sg n).length ∧ (x, p) ∈ tlD (sg n) fl j) (h : fdW v g T) : v 55 = nI (wp n fl).length ∧ ∀ i q, (wp n fl)[i]? = some q → g 35 i = q.1 := by
  obtain ⟨W, h1, h2, h3, h4⟩ := h
  have e : W = (wp n fl).map Prod.fst := by
    refine srt_uniq (fun x : Int64 => x.toInt) _ _ h3 ?_ (fun x => ?_)
    · rw [List.pairwise_map]; exact srtW_pw hw.1
    · rw [h4 x, hT x, List.mem_map]
      constructor
      · rintro ⟨j, p, hj, hx⟩
        obtain ⟨i, q, hq, e⟩ := hw.2.2 x (pst_mem hj hx)
        exact ⟨q, List.mem_of_getElem? hq, e⟩
      · rintro ⟨q, hq, rfl⟩
        exact pst_ne ((wOk_mem hw q).mp hq).2
  subst e
  refine ⟨by rw [h1, List.length_map], fun i q hq => h2 i q.1 ?_⟩
  rw [List.getElem?_map, hq]; rfl
/-- a word is named that isn't there -/
def noWd (sg : Nat → List Dc) (ids : List Nat) (wp : Wps) (off : Bool) (x y z : Int32) : Prop := off = true ∨ (∀ k, k < ids.length → x ≠ nI k) ∨ (∀ k, k < 2 → y ≠ nI k) ∨ ∃ k n fl, ids[k]? = some n ∧ x = nI k ∧ fl < 2 ∧ y = nI fl ∧ ∀ j, j < (wp n fl).length → z ≠ nI j
theorem wp_len {n fl : Nat} (hwp : wpOk sg made wp) (hW : tkIn sg made WL) (hn : n < made) (hf : fl < 2) : (wp n fl).length ≤ 2000 := by
  have hw := hwp n fl hn hf
  have nd : ((wp n fl).map Prod.fst).Nodup := pw_nd (by rw [List.pairwise_map]; exact srtW_pw hw.1)
  have := nd_len (m := WL) nd (fun x hx => by
    obtain ⟨q, hq, rfl⟩ := List.mem_map.mp hx
    obtain ⟨j, p, hj, hm⟩ := pst_ne ((wOk_mem hw q).mp hq).2
    exact hW.2 n fl j p q.1 hn hf hm)
  rw [List.length_map] at this
  have := hW.1
  omega
theorem shN_sym {a b : Nat} {k : Nat} : (!(decide (0 < dg a k) && (dg a k == dg b k))) = !(decide (0 < dg b k) && (dg a k == dg b k)) := by
  by_cases c : dg a k = dg b k
  · rw [c]
  · have : (dg a k == dg b k) = false := by simpa using c
    rw [this, Bool.and_false, Bool.and_false]
/-- words' numbers -/
def wpN (wp : Wps) (made : Nat) : Prop := ∀ n fl, n < made → fl < 2 → ∀ (i : Nat) (q : Int64 × List (Nat × Nat)), (wp n fl)[i]? = some q → ∃ w, w < 37 ^ 12 ∧ q.1 = lN w
def Wn (W : List (Int64 × List (Nat × Nat))) (i : Nat) : Nat := (W.getD i (0, [])).1.toInt.toNat
theorem Wn_of {n fl i : Nat} {q : Int64 × List (Nat × Nat)} (hN : wpN wp made) (hn : n < made) (hf : fl < 2) (hq : (wp n fl)[i]? = some q) : q.1 = lN (Wn (wp n fl) i) ∧ Wn (wp n fl) i < 2 ^ 63 := by
  obtain ⟨w, h1, h2⟩ := hN n fl hn hf i q hq
  have : Wn (wp n fl) i = w := by
    unfold Wn
    rw [List.getD_eq_getElem?_getD, hq]
    show q.1.toInt.toNat = w
    rw [h2, lN_nat (by omega)]
  rw [this]
  exact ⟨h2, by omega⟩
theorem mPow_fr (h : g' 1 = g 1) (hp : mPow g) : mPow g' := by
  unfold mPow
  rw [h]; exact hp
theorem dgI_in {w : Nat} {t : Int32} (h0 : inB t (nI 0) (nI 11) = false) : dgI w t = 0 := by
  unfold dgI
  by_cases c : t < 0
  · rw [if_pos c]
  · rw [if_neg c]
    by_cases c2 : t < nI 12
    · obtain ⟨k, hk, hx⟩ := nI_of c
      rw [hx] at c2 h0
      have k12 := (nI_ltI hk (show 12 < 2 ^ 31 by decide)).mp c2
      rw [inB_N (by omega) (by omega) (by omega)] at h0
      simp [inN] at h0
      omega
    · rw [if_neg c2]
end HW
