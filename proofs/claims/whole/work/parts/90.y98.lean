/-! the reference: questions about the index; whether a token is at a place -/
theorem inB_len {x : Int32} {n : Nat} (hn : n < 2 ^ 31) : (inB x (nI 0) (nI n - nI 1) = true → ∃ k, k < n ∧ x = nI k) ∧ ∀ k, k < n → x = nI k → inB x (nI 0) (nI n - nI 1) = true := by
  cases n with
  | zero =>
    refine ⟨fun h => ?_, fun k hk => absurd hk (Nat.not_lt_zero k)⟩
    unfold inB at h
    rw [Bool.and_eq_true, decide_eq_true_iff, decide_eq_true_iff] at h
    have h1 : (0 : Int) ≤ x.toInt := by
      have := Int32.le_iff_toInt_le.mp h.1
      exact this
    have h2 : x.toInt ≤ (-1 : Int) := by
      have := Int32.le_iff_toInt_le.mp h.2
      exact this
    omega
  | succ m =>
    have e : nI (m + 1) - nI 1 = nI m := by rw [pk_sub (by omega), Nat.add_sub_cancel]
    rw [e]
    refine ⟨fun h => ?_, fun k hk hx => ?_⟩
    · obtain ⟨k, hk, hx⟩ := inB_of (by omega) h
      exact ⟨k, by omega, hx⟩
    · rw [hx, inB_N (by omega) (by omega) (by omega)]
      simp [inN]
      omega
section QN
variable {v v' : Nat → Int32} {f f' : Nat → Nat → Int32} {g g' : Nat → Nat → Int64} {l : LGt} {made dn op : Nat} {sg : Nat → List Dc} {hd : Nat → Nat → Nat} {ids : List Nat} {lv : Nat → Nat → Bool} {off : Bool}
theorem p_inL {Q : QI} {x : Int32} {n : Nat} (hn : n < 2 ^ 31) (h0 : (∀ k, k < n → x ≠ nI k) → Q (bI false) v f g) (h1 : ∀ k, k < n → x = nI k → Q (bI true) v f g) : r_in Q x (nI 0) (nI n - nI 1) v f g := by
  refine p_in ?_
  have := inB_len (x := x) hn
  cases e : inB x (nI 0) (nI n - nI 1) with
  | false => exact h0 (fun k hk hx => by have := this.2 k hk hx; rw [e] at this; exact absurd this (by decide))
  | true =>
    obtain ⟨k, hk, hx⟩ := this.1 e
    exact h1 k hk hx
theorem p_isPlace {Q : QI} {x : Int32} (h98 : v 98 = bI off) (hi : rIx v f made sg ids lv) (h0 : (off = true ∨ ∀ k, k < ids.length → x ≠ nI k) → Q (bI false) v f g) (h1 : ∀ k, off = false → k < ids.length → x = nI k → Q (bI true) v f g) : r_isPlace Q x v f g := by
  unfold r_isPlace
  rw [h98, hi.1]
  refine w_bn off (fun e => h0 (Or.inl e)) (fun e => p_inL (by have := hi.2.1; omega) (fun hno => ⟨fun _ => h0 (Or.inr hno), fun c => absurd rfl c⟩) (fun k hk hx => ⟨fun c => absurd c (by decide), fun _ => h1 k e hk hx⟩))
theorem p_segments {Q : QI} (h98 : v 98 = bI off) (hi : rIx v f made sg ids lv) (hX : off = true → Q (nI 0) (upd v 99 (nI 1)) f g) (h : off = false → Q (nI ids.length) (upd v 99 (nI 0)) f g) : r_segments Q v f g := by
  unfold r_segments r_segments_13
  rw [h98]
  refine w_bn off (fun e => goF (b1 := false) ⟨fun _ => hX e, fun c => absurd rfl c⟩) (fun e => goF (b1 := true) ⟨fun c => absurd c (by decide), fun _ => ?_⟩)
  have e34 : (upd v 99 (if true = true then nI 0 else nI 1)) 34 = nI ids.length := (upd_n (by decide)).trans hi.1
  rw [e34]
  exact h e
theorem p_segmentAt {Q : QI} {x : Int32} (h98 : v 98 = bI off) (hi : rIx v f made sg ids lv) (hX : (off = true ∨ ∀ k, k < ids.length → x ≠ nI k) → Q (nI 0) (upd v 99 (nI 1)) f g) (h : ∀ k n, off = false → ids[k]? = some n → x = nI k → Q (nI n) (upd v 99 (nI 0)) f g) : r_segmentAt Q x v f g := by
  have i2 := hi.2.1
  unfold r_segmentAt
  refine p_isPlace h98 hi (fun q => goF (b1 := false) ⟨fun _ => hX q, fun c => absurd rfl c⟩) (fun k e hk hx => goF (b1 := true) ⟨fun c => absurd c (by decide), fun _ => ?_⟩)
  obtain ⟨n, hn⟩ := get_ex hk
  subst hx
  rw [nI_clamp (show k < 2 ^ 31 by omega), (hi.2.2.1 k n hn).1]
  exact ⟨pk_in k 202 (by omega), h k n e hn rfl⟩
theorem p_live {Q : QI} {x : Int32} (h98 : v 98 = bI off) (hs : rSg l v f g made dn sg hd) (hi : rIx v f made sg ids lv) (hX : (off = true ∨ ∀ k, k < ids.length → x ≠ nI k) → Q (nI 0) (upd v 99 (nI 1)) f g) (h : ∀ k n, off = false → ids[k]? = some n → x = nI k → Q (nI (cntB (lv n) (sg n).length)) (upd v 99 (nI 0)) f g) : r_live Q x v f g := by
  have i2 := hi.2.1
  have m201 := hs.1.2
  unfold r_live
  refine p_isPlace h98 hi (fun q => goF (b1 := false) ?_) (fun k e hk hx => goF (b1 := true) ?_)
  · unfold r_live_17L
    refine fun P hP => hP _ ?_
    show r_live_17 Q _ x (nI 0) (bI false) (nI 0) (upd v 99 (nI 1)) f g
    unfold r_live_17
    exact ⟨fun _ => hX q, fun c => absurd rfl c⟩
  · obtain ⟨n, hn⟩ := get_ex hk
    subst hx
    obtain ⟨t1, t2⟩ := hi.2.2.1 k n hn
    obtain ⟨u1, u2, -⟩ := hs.2.2 n t2
    unfold r_live_17L
    refine lfp_cnt (sg n).length (fun j y => y = (nI k, nI (cntB (lv n) j), bI true, nI j, upd v 99 (nI 0), f, g)) ?_ rfl
    rintro P j _ hj rfl ih
    show r_live_17 Q _ (nI k) (nI (cntB (lv n) j)) (bI true) (nI j) (upd v 99 (nI 0)) f g
    unfold r_live_17
    rw [nI_clamp (show k < 2 ^ 31 by omega), t1, nI_clamp (show n < 2 ^ 31 by omega), u1, pk_mul, nI_add, nI_clamp (show 100 * n + j < 2 ^ 31 by omega)]
    have kin : vp_in (nI k) 202 := pk_in k 202 (by omega)
    refine ⟨fun c => absurd c (by decide), fun _ => ⟨kin, pk_in n 202 (by omega), pk_le (sg n).length j (fun z => ?_) (fun z => ⟨kin, pk_in (100 * n + j) 20200 (by omega), ?_⟩)⟩⟩
    · obtain rfl : j = (sg n).length := by omega
      exact h k n e hn rfl
    rw [hi.2.2.2 n (List.mem_of_getElem? hn) j z]
    have go : ∀ t : Nat, t = (if lv n j = true then 1 else 0) → r_live_63 Q (fun b0 b1 b2 b3 v f g => P (b0, b1, b2, b3, v, f, g)) (nI k) (bI true) (nI j) (nI t) (nI (cntB (lv n) j)) (upd v 99 (nI 0)) f g := by
      intro t ht
      unfold r_live_63
      rintro _ rfl _ rfl
      rw [nI_add, nI_add, ht]
      exact ih _ z rfl
    exact w_b0 (lv n j) (fun c => go 0 (by rw [c]; rfl)) (fun c => go 1 (by rw [c]; rfl))
theorem p_keyAt {Q : QI} {x y : Int32} (h98 : v 98 = bI off) (hs : rSg l v f g made dn sg hd) (hi : rIx v f made sg ids lv) (hX : (off = true ∨ (∀ k, k < ids.length → x ≠ nI k) ∨ ∃ k n, ids[k]? = some n ∧ x = nI k ∧ ∀ j, j < (sg n).length → y ≠ nI j) → Q (nI 0) (upd v 99 (nI 1)) f g) (h : ∀ k n j d, off = false → ids[k]? = some n → x = nI k → (sg n)[j]? = some d → y = nI j → Q (nI (dK d)) (upd v 99 (nI 0)) f g) : r_keyAt Q x y v f g := by
  have i2 := hi.2.1
  have m201 := hs.1.2
  have dn12 := hs.2.1.2
  have no : (off = true ∨ (∀ k, k < ids.length → x ≠ nI k) ∨ ∃ k n, ids[k]? = some n ∧ x = nI k ∧ ∀ j, j < (sg n).length → y ≠ nI j) → r_keyAt_44 Q x y v f g := fun q => by
    unfold r_keyAt_44 r_keyAt_45
    exact goF (b1 := false) ⟨fun _ => hX q, fun c => absurd rfl c⟩
  unfold r_keyAt
  refine p_isPlace h98 hi (fun q => ⟨fun _ => no (q.elim Or.inl (fun q => Or.inr (Or.inl q))), fun c => absurd rfl c⟩) (fun k e hk hx => ⟨fun c => absurd c (by decide), fun _ => ⟨fun c => absurd c (by decide), fun _ => ?_⟩⟩)
  obtain ⟨n, hn⟩ := get_ex hk
  obtain ⟨t1, t2⟩ := hi.2.2.1 k n hn
  obtain ⟨u1, u2, u3⟩ := hs.2.2 n t2
  have xc : x.toNatClampNeg = k := by rw [hx]; exact nI_clamp (by omega)
  have kin : vp_in x 202 := by rw [hx]; exact pk_in k 202 (by omega)
  rw [xc, t1, nI_clamp (show n < 2 ^ 31 by omega), u1]
  refine ⟨kin, pk_in n 202 (by omega), ?_⟩
  unfold r_keyAt_34
  refine p_inL (by omega) (fun hno => ⟨fun _ => no (Or.inr (Or.inr ⟨k, n, hn, hx, hno⟩)), fun c => absurd rfl c⟩) (fun j hj hy => ⟨fun c => absurd c (by decide), fun _ => ?_⟩)
  obtain ⟨d, hd'⟩ := get_ex hj
  obtain ⟨w1, w2, w3⟩ := u3 j d hd'
  unfold r_keyAt_45
  refine goF (b1 := true) ⟨fun c => absurd c (by decide), fun _ => ?_⟩
  rw [xc, t1, hy, pk_mul, nI_add, nI_clamp (show 100 * n + j < 2 ^ 31 by omega), w1, nI_clamp (show hd n j < 2 ^ 31 by omega), w3.1.1]
  exact ⟨kin, pk_in (100 * n + j) 20200 (by omega), pk_in (hd n j) 2424 (by omega), h k n j d e hn hx hd' hy⟩
/-- the language in rows -/
def rLg (v : Nat → Int32) (g : Nat → Nat → Int64) (l : LGt) : Prop := (g 5 = l.1 ∧ g 6 = l.2.1) ∧ (v 9 = nI l.2.2.1 ∧ l.2.2.1 ≤ 10) ∧ ∃ ks, (v 6 = nI ks ∧ ks ≤ 10) ∧ l.2.2.2 = fun c => anyB (fun j => g 4 j == c) ks
/-- whether a stem gives a token -/
def hsB (l : LGt) (s c : Int64) : Bool := (decide (s = c) || anyB (fun k => decide (l.1 k = s) && decide (l.2.1 k = c)) l.2.2.1) && !l.2.2.2 s
theorem hsB_mem {st : Nat → Int64} {n p : Nat} {c : Int64} : (c, p) ∈ tkG l st n ↔ p < n ∧ hsB l (st p) c = true := by
  unfold tkG hsB
  rw [tkL_mem, Bool.and_eq_true, Bool.or_eq_true, decide_eq_true_iff, anyB_ex, Bool.not_eq_true']
  refine and_congr Iff.rfl ?_
  constructor
  · rintro ⟨h1, h2⟩
    refine ⟨?_, h1⟩
    rcases h2 with h2 | ⟨k, k1, k2, k3⟩
    · exact Or.inl h2.symm
    · exact Or.inr ⟨k, k1, by rw [Bool.and_eq_true, decide_eq_true_iff, decide_eq_true_iff]; exact ⟨k2, k3⟩⟩
  · rintro ⟨h2, h1⟩
    refine ⟨h1, ?_⟩
    rcases h2 with h2 | ⟨k, k1, k2⟩
    · exact Or.inl h2.symm
    · rw [Bool.and_eq_true, decide_eq_true_iff, decide_eq_true_iff] at k2
      exact Or.inr ⟨k, k1, k2.1, k2.2⟩
theorem p_isStopL {Q : QI} {t : Int64} (hl : rLg v g l) (h : Q (bI (l.2.2.2 t)) v f g) : r_isStop Q t v f g := by
  obtain ⟨-, -, ks, ⟨k1, k2⟩, k3⟩ := hl
  rw [k3] at h
  exact p_isStop k2 k1 h
theorem p_hasAt {Q : QI} {k fl p : Nat} {s c : Int64} (hl : rLg v g l) (hk : k < 2424) (hf : fl < 2) (hp : p < 20) (e : g 17 (40 * k + (20 * fl + p)) = s) (h : Q (bI (hsB l s c)) v f g) : r_hasAt Q (nI k) (nI fl) (nI p) c v f g := by
  obtain ⟨⟨l1, l2⟩, ⟨l3, l4⟩, -⟩ := id hl
  unfold r_hasAt
  rw [pk_mul, pk_mul, nI_add, nI_add, Nat.add_assoc, nI_clamp (show 40 * k + (20 * fl + p) < 2 ^ 31 by omega), e]
  refine ⟨pk_in (40 * k + (20 * fl + p)) 96960 (by omega), ?_⟩
  intro x6 ex6
  rw [ex6]
  have main : ∀ b : Bool, b = decide (s = c) → r_hasAt_31 Q c s (bI b) v f g := by
    intro b hb
    unfold r_hasAt_31 r_hasAt_36L
    refine lfp_cnt l.2.2.1 (fun j y => y = (c, s, bI (b || anyB (fun k => decide (l.1 k = s) && decide (l.2.1 k = c)) j), nI j, v, f, g)) ?_ (by
      show _ = (c, s, bI (b || false), nI 0, v, f, g)
      rw [Bool.or_false])
    rintro P j _ hj rfl ih
    show r_hasAt_36 Q _ c s (bI (b || anyB (fun k => decide (l.1 k = s) && decide (l.2.1 k = c)) j)) (nI j) v f g
    unfold r_hasAt_36
    rw [l3]
    refine pk_le l.2.2.1 j (fun z => ?_) (fun z => ?_)
    · obtain rfl : j = l.2.2.1 := by omega
      unfold hsB at h
      rw [← hb] at h
      refine w_B0 (fun e2 => by rw [e2] at h; exact h) (fun e2 => p_isStopL hl (w_Bn (fun e3 => by rw [e2, e3] at h; exact h) (fun e3 => by rw [e2, e3] at h; exact h)))
    have step := anyB_s (fun k => decide (l.1 k = s) && decide (l.2.1 k = c)) j
    have go : ∀ t : Bool, t = (b || anyB (fun k => decide (l.1 k = s) && decide (l.2.1 k = c)) (j + 1)) → r_hasAt_81 Q (fun b0 b1 b2 b3 v f g => P (b0, b1, b2, b3, v, f, g)) c s (nI j) (bI t) v f g := by
      intro t ht
      unfold r_hasAt_81
      rintro _ rfl
      rw [nI_add, ht]
      exact ih _ z rfl
    have jin : vp_in (nI j) 10 := pk_in j 10 (by omega)
    unfold r_hasAt_80
    refine w_Bn (fun e2 => go true (by rw [step, ← Bool.or_assoc, e2]; rfl)) (fun e2 => ⟨jin, ?_⟩)
    rw [nI_clamp (show j < 2 ^ 31 by omega), l1, l2]
    refine ⟨fun c1 => go false ?_, fun c1 => ⟨jin, fun c2 => go false ?_, fun c2 => go true ?_⟩⟩
    · rw [step, ← Bool.or_assoc, e2, decide_eq_false c1]; rfl
    · rw [step, ← Bool.or_assoc, e2, decide_eq_false c2, Bool.and_false]; rfl
    · rw [step, ← Bool.or_assoc, e2, decide_eq_true c1, decide_eq_true c2]; rfl
  exact ⟨fun c1 => main false (by rw [decide_eq_false c1]), fun c1 => main true (by rw [decide_eq_true c1])⟩
end QN
