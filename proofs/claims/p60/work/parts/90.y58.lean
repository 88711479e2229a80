/-! the class: what queries refuse; the reader -/
section QT
variable {S T U : cS} {ρ ρ' ρ'' : Nat → Nat} {dp x n m : Nat} {nd : Nat → Nd} {qs : List (Nat × (Nat → Nd))} {Q : cS → Prop} {mc ms : Nat}
theorem i32_ge {z : Int32} {a : Nat} (ha : a < 2 ^ 31) (h : ¬ z < nI a) : ∃ k, a ≤ k ∧ k < 2 ^ 31 ∧ z = nI k := by
  have c0 : ¬ z < 0 := fun w => h (by
    rcases Nat.eq_zero_or_pos a with e | e
    · subst e; exact w
    · exact Int32.lt_trans w ((nI_ltI (a := 0) (by decide) ha).mpr e))
  obtain ⟨k, hk, rfl⟩ := nI_of c0
  exact ⟨k, by have := mt (nI_ltI hk ha).mpr h; omega, hk, rfl⟩
theorem x_leastA {y z : Int32} (h0 : ¬ ∃ k l, 2 ≤ k ∧ k ≤ 8 ∧ 1 ≤ l ∧ l ≤ k ∧ y = nI k ∧ z = nI l) (hm : 1 ≤ mc) (hs : 6 ≤ ms) (h : Q S) : kx_X11_least "java/lang/IllegalArgumentException" Q dp mc ms x y z S := by
  have bd : (0 + 1 ≤ mc ∧ 0 + 6 ≤ ms) := ⟨by omega, by omega⟩
  unfold kx_X11_least
  refine ⟨fun _ => ⟨rfl, bd, h⟩, fun c1 => ⟨fun _ => ⟨rfl, bd, h⟩, fun c2 => ⟨fun _ => ⟨rfl, bd, h⟩, fun c3 => ⟨fun c4 => ?_, fun _ => ⟨rfl, bd, h⟩⟩⟩⟩⟩
  obtain ⟨k, k2, k31, rfl⟩ := i32_ge (by decide) c1
  obtain ⟨l, l1, l31, rfl⟩ := i32_ge (by decide) c3
  exact absurd ⟨k, l, k2, by have := mt (nI_ltI (by decide) k31).mpr c2; omega, l1, (nI_leI l31 k31).mp c4, rfl, rfl⟩ h0
theorem x_leastS {k l : Nat} (hx : cA S x 11) (g : gPr S ρ dp x m nd) (hk : 2 ≤ k ∧ k ≤ 8) (hl : 1 ≤ l ∧ l ≤ k) (h0 : (qsS nd m).1 < k) (hm : 1 ≤ mc) (hs : 6 ≤ ms) (h : Q S) : kx_X11_least "java/lang/IllegalStateException" Q dp mc ms x (nI k) (nI l) S := by
  unfold kx_X11_least
  exact pk_lt k 2 (fun z => absurd z (by omega)) (fun _ => pk_lt 8 k (fun z => absurd z (by omega)) (fun _ => pk_lt l 1 (fun z => absurd z (by omega)) (fun _ => pk_le l k (fun _ => ⟨hx, Or.inr ⟨mc, ms, ⟨by omega, by omega⟩, x_checkParts hx g h0 (by omega) hm hs h⟩⟩) (fun z => absurd z (by omega)))))
theorem x_but (hx : cA S x 11) (g : gPr S ρ dp x m nd) (h0 : (qsS nd m).1 < 2) (hm : 1 ≤ mc) (hs : 6 ≤ ms) (h : Q S) : kx_X11_but "java/lang/IllegalStateException" Q dp mc ms x S := by
  unfold kx_X11_but
  exact ⟨hx, Or.inr ⟨mc, ms, ⟨by omega, by omega⟩, x_checkParts (k := 2) hx g h0 (by decide) hm hs h⟩⟩
theorem x_query (hx : cA S x 11) (g : gPr S ρ dp x m nd) (gl : gQl S ρ dp x qs) (h8 : (qsS nd m).1 < 100) (h0 : (qsS nd m).1 ≠ 1 ∨ 40 ≤ qs.length) (hm : 1 ≤ mc) (hs : 6 ≤ ms) (h : Q S) : kx_X11_query "java/lang/IllegalStateException" Q dp mc ms x S := by
  obtain ⟨q, e, gq⟩ := id g
  obtain ⟨ql, l, lm, el, l1, l2, l3, l4, l5⟩ := id gl
  have hll := parL_len l5
  have hl8 : l.length < 8000 := by have := l1.2.2.1; have := l1.2.2.2.1; omega
  have bd : (0 + 1 ≤ mc ∧ 0 + 6 ≤ ms) := ⟨by omega, by omega⟩
  unfold kx_X11_query
  refine ⟨hx, q, e, gq.1, ?_⟩
  rw [gq.2.2.1]
  refine w_ne (qsS nd m).1 1 (fun _ => ⟨rfl, bd, h⟩) (fun c => ⟨hx, ql, el, l1.1, ⟨by omega, by omega⟩, q_lsize l1 (pk_lt l.length 40 (fun z => ?_) (fun _ => ⟨rfl, bd, h⟩))⟩)
  rcases h0 with w | w <;> omega
theorem g_queryOf {Q : Nat → cS → Prop} {k : Nat} {e : Nat × (Nat → Nd)} (hx : cA S x 11) (gl : gQl S ρ dp x qs) (hk : qs[k]? = some e) (h : ∀ q, gQy S ρ dp 17 17 q e.1 e.2 → Q q S) : k_X11_queryOf Q dp x (nI k) S := by
  obtain ⟨ql, l, lm, el, l1, l2, l3, l4, l5⟩ := id gl
  have hll := parL_len l5
  have hl8 : l.length < 8000 := by have := l1.2.2.1; have := l1.2.2.2.1; omega
  have hkl := get_lt hk
  obtain ⟨q, hq⟩ := get_ex (l := l) (k := k) (by omega)
  have gq := parL_get l5 hq hk
  unfold k_X11_queryOf
  exact w_pos k ⟨hx, ql, el, l1.1, q_lsize l1 (pk_lt k l.length (fun _ => ⟨hx, ql, el, l1.1, q_lget l1 hq ⟨gq.1, h q gq⟩⟩) (fun z => absurd z (by omega)))⟩
theorem x_queryOf {y : Int32} (hx : cA S x 11) (gl : gQl S ρ dp x qs) (hk : ∀ k, k < qs.length → y ≠ nI k) (hm : 1 ≤ mc) (hs : 6 ≤ ms) (h : Q S) : kx_X11_queryOf "java/lang/IndexOutOfBoundsException" Q dp mc ms x y S := by
  obtain ⟨ql, l, lm, el, l1, l2, l3, l4, l5⟩ := id gl
  have hll := parL_len l5
  have hl8 : l.length < 8000 := by have := l1.2.2.1; have := l1.2.2.2.1; omega
  have bd : (0 + 1 ≤ mc ∧ 0 + 6 ≤ ms) := ⟨by omega, by omega⟩
  unfold kx_X11_queryOf
  refine ⟨fun _ => ⟨rfl, bd, h⟩, fun c => ⟨hx, ql, el, l1.1, ⟨by omega, by omega⟩, q_lsize l1 ⟨fun c2 => ?_, fun _ => ⟨rfl, bd, h⟩⟩⟩⟩
  obtain ⟨k, hk31, rfl⟩ := nI_of c
  exact absurd rfl (hk k (by have := (nI_ltI hk31 (by omega)).mp c2; omega))
end QT
/-! the reader: its rows -/
def rwT (S : cS) (ρ : Nat → Nat) (o fld a n τ : Nat) : Prop := cr S fld o = some a ∧ cA S a 14 ∧ cn S a = n ∧ ρ a = τ
def mtT (S : cS) (ρ : Nat → Nat) (o fld a : Nat) (rows : Nat → Nat) (n τ : Nat) : Prop := cr S fld o = some a ∧ cA S a 18 ∧ cn S a = n ∧ ρ a = 20 ∧ (∀ i, i < n → cO S a i = some (rows i) ∧ cA S (rows i) 14 ∧ cn S (rows i) = 100 ∧ ρ (rows i) = τ) ∧ ∀ i j, i < n → j < n → rows i = rows j → i = j
def rdr (S : cS) (ρ : Nat → Nat) (rd w0 w1 wr mo fo ro pl ra gi : Nat) (mk fs rw : Nat → Nat) : Prop := cA S rd 7 ∧ ρ rd = 19 ∧ (rwT S ρ rd 224 wr 2 19 ∧ cI S wr 0 = nI w0 ∧ cI S wr 1 = nI w1) ∧ mtT S ρ rd 225 mo mk 24 22 ∧ mtT S ρ rd 226 fo fs 24 23 ∧ mtT S ρ rd 227 ro rw 6 24 ∧ rwT S ρ rd 228 pl 6 25 ∧ rwT S ρ rd 229 ra 24 26 ∧ rwT S ρ rd 230 gi 24 27
section RD
variable {S T U : cS} {ρ ρ' ρ'' : Nat → Nat} {M : List Nat} {dp x rd w0 w1 wr mo fo ro pl ra gi : Nat} {mk fs rw : Nat → Nat}
theorem rwT_fr {o fld a n τ : Nat} (h : fr S T ρ ρ' M) (hr : cr T fld o = cr S fld o) (hρ : ρ' a = ρ a) (g : rwT S ρ o fld a n τ) : rwT T ρ' o fld a n τ := ⟨hr.trans g.1, fr_A h g.2.1, (sub_cn h.1 g.2.1).trans g.2.2.1, hρ.trans g.2.2.2⟩
theorem mtT_fr {o fld a n τ : Nat} {rows : Nat → Nat} (h : fr S T ρ ρ' M) (h20 : 20 ∉ M) (hr : cr T fld o = cr S fld o) (hρ : ∀ i, i < n → ρ' (rows i) = ρ (rows i)) (g : mtT S ρ o fld a rows n τ) : mtT T ρ' o fld a rows n τ := by
  obtain ⟨g1, g2, g3, g4, g5, g6⟩ := g
  refine ⟨hr.trans g1, fr_A h g2, (sub_cn h.1 g2).trans g3, fr_tg h g2.1 g4 h20, fun i hi => ?_, g6⟩
  obtain ⟨a1, a2, a3, a4⟩ := g5 i hi
  exact ⟨by rw [sub_cO h.1 g2 (by rw [g4]; exact h20)]; exact a1, fr_A h a2, (sub_cn h.1 a2).trans a3, (hρ i hi).trans a4⟩
/-- rows of the reader may be written -/
theorem rdr_fr (h : fr S T ρ ρ' M) (h19 : 19 ∉ M) (h20 : 20 ∉ M) (hρ : ∀ a, a ∈ cL S → (ρ a = 22 ∨ ρ a = 23 ∨ ρ a = 24 ∨ ρ a = 25 ∨ ρ a = 26 ∨ ρ a = 27) → ρ' a = ρ a) (g : rdr S ρ rd w0 w1 wr mo fo ro pl ra gi mk fs rw) : rdr T ρ' rd w0 w1 wr mo fo ro pl ra gi mk fs rw := by
  obtain ⟨g1, g2, ⟨g3, g4, g5⟩, m1, m2, m3, r1, r2, r3⟩ := g
  have nd : ρ rd ∉ M := by rw [g2]; exact h19
  have rr : ∀ q, cr T q rd = cr S q rd := fun q => fr_cr h g1 nd
  have nw : ρ wr ∉ M := by rw [g3.2.2.2]; exact h19
  have hI := sub_cI h.1 g3.2.1 nw
  refine ⟨fr_A h g1, fr_tg h g1.1 g2 h19, ⟨rwT_fr h (rr _) (h.2 wr g3.2.1.1 nw) g3, by rw [hI]; exact g4, by rw [hI]; exact g5⟩, mtT_fr h h20 (rr _) (fun i hi => hρ _ (m1.2.2.2.2.1 i hi).2.1.1 (Or.inl (m1.2.2.2.2.1 i hi).2.2.2)) m1, mtT_fr h h20 (rr _) (fun i hi => hρ _ (m2.2.2.2.2.1 i hi).2.1.1 (Or.inr (Or.inl (m2.2.2.2.2.1 i hi).2.2.2))) m2, mtT_fr h h20 (rr _) (fun i hi => hρ _ (m3.2.2.2.2.1 i hi).2.1.1 (Or.inr (Or.inr (Or.inl (m3.2.2.2.2.1 i hi).2.2.2)))) m3, rwT_fr h (rr _) (hρ _ r1.2.1.1 (by rw [r1.2.2.2]; decide)) r1, rwT_fr h (rr _) (hρ _ r2.2.1.1 (by rw [r2.2.2.2]; decide)) r2, rwT_fr h (rr _) (hρ _ r3.2.1.1 (by rw [r3.2.2.2]; decide)) r3⟩
theorem rdr_s (h : fr S T ρ ρ M) (h19 : 19 ∉ M) (h20 : 20 ∉ M) (g : rdr S ρ rd w0 w1 wr mo fo ro pl ra gi mk fs rw) : rdr T ρ rd w0 w1 wr mo fo ro pl ra gi mk fs rw := rdr_fr h h19 h20 (fun _ _ _ => rfl) g
/-- the reader of the object -/
def gRd (S : cS) (ρ : Nat → Nat) (x w0 w1 : Nat) : Prop := ∃ rd wr mo fo ro pl ra gi mk fs rw, cr S 364 x = some rd ∧ rdr S ρ rd w0 w1 wr mo fo ro pl ra gi mk fs rw ∧ ∃ rr : Nat → Nat, (∀ i, rr i ≤ 102) ∧ ∀ i, i < 24 → cI S ra i = nI (rr i)
theorem gRd_f (h : fr S T ρ ρ' M) (hM : [19, 20, 22, 23, 24, 25, 26, 27].all (fun τ => !M.contains τ) = true) (hx : cr T 364 x = cr S 364 x) (g : gRd S ρ x w0 w1) : gRd T ρ' x w0 w1 := by
  have nM : ∀ τ, τ ∈ [19, 20, 22, 23, 24, 25, 26, 27] → τ ∉ M := fun τ hτ hin => by
    have := List.all_eq_true.mp hM τ hτ
    rw [List.contains_iff_mem.mpr hin] at this
    exact Bool.noConfusion this
  obtain ⟨rd, wr, mo, fo, ro, pl, ra, gi, mk, fs, rw, e, g, rr, hr1, hr2⟩ := g
  have r2 := g.2.2.2.2.2.2.2.1
  refine ⟨rd, wr, mo, fo, ro, pl, ra, gi, mk, fs, rw, hx.trans e, rdr_fr h (nM 19 (by decide)) (nM 20 (by decide)) (fun a ha ht => h.2 a ha (by rcases ht with e | e | e | e | e | e <;> rw [e] <;> exact nM _ (by decide))) g, rr, hr1, fun i hi => ?_⟩
  rw [sub_cI h.1 r2.2.1 (by rw [r2.2.2.2]; exact nM 26 (by decide))]
  exact hr2 i hi
/-- one more than how often a number can be halved -/
def rarL : Nat → Nat → Nat
  | 0, _ => 1
  | n + 1, k => if k ≤ 1 then 1 else rarL n (k / 2) + 1
theorem rarL_st : ∀ {n k : Nat}, k ≤ n → ∀ d, rarL (n + d) k = rarL n k
  | 0, k, h, d => by
    obtain rfl : k = 0 := by omega
    cases d with
    | zero => rfl
    | succ d => rw [Nat.zero_add]; show (if 0 ≤ 1 then 1 else rarL d (0 / 2) + 1) = 1; rw [if_pos (by omega)]
  | n + 1, k, h, d => by
    rw [show n + 1 + d = (n + d) + 1 by omega, rarL, rarL]
    by_cases c : k ≤ 1
    · rw [if_pos c, if_pos c]
    · rw [if_neg c, if_neg c, rarL_st (by omega) d]
def rarN (all having : Nat) : Nat := rarL ((all + 1) / (having + 1)) ((all + 1) / (having + 1))
theorem rarL_s {k : Nat} (h : 1 < k) : rarL k k = rarL (k / 2) (k / 2) + 1 := by
  obtain ⟨n, rfl⟩ : ∃ n, k = n + 1 := ⟨k - 1, by omega⟩
  rw [rarL, if_neg (by omega)]
  have := rarL_st (n := (n + 1) / 2) (k := (n + 1) / 2) (Nat.le_refl _) (n - (n + 1) / 2)
  rw [show (n + 1) / 2 + (n - (n + 1) / 2) = n by omega] at this
  rw [this]
theorem rarL_le : ∀ {n k w : Nat}, k < 2 ^ w → rarL n k ≤ w + 1
  | 0, k, w, h => by rw [rarL]; omega
  | n + 1, k, w, h => by
    rw [rarL]
    by_cases c : k ≤ 1
    · rw [if_pos c]; omega
    · rw [if_neg c]
      cases w with
      | zero => rw [Nat.pow_zero] at h; omega
      | succ w =>
        have := rarL_le (n := n) (k := k / 2) (w := w) (by rw [Nat.pow_succ] at h; omega)
        omega
theorem rarN_le {all having : Nat} (h : all < 65535) : rarN all having ≤ 17 := by
  refine rarL_le ?_
  have : (all + 1) / (having + 1) ≤ all + 1 := Nat.div_le_self _ _
  omega
theorem q_rarityOf {Q : Int32 → cS → Prop} {all hv : Nat} (ha : all < 2 ^ 30) (hh : hv < 2 ^ 30) (h : Q (nI (rarN all hv)) S) : k_X7_rarityOf Q dp (nI all) (nI hv) S := by
  unfold k_X7_rarityOf
  rw [if_neg (show ¬ nI hv < nI 0 from nI_pos (by omega)), nI_add, nI_add]
  refine ⟨fun c => absurd ((nI_z (by omega)).mp c) (by omega), ?_⟩
  rintro _ rfl
  rw [pk_div (by omega) (by omega) (by omega)]
  have hd : (all + 1) / (hv + 1) ≤ all + 1 := Nat.div_le_self _ _
  have key : ∀ N k r, k ≤ N → k < 2 ^ 31 → r + rarL k k = rarN all hv + 1 → k_X7_rarityOf_14L Q dp (nI r) (nI k) S := by
    intro N
    induction N with
    | zero =>
      intro k r hk hk31 hr
      unfold k_X7_rarityOf_14L
      refine fun P hP => hP _ ?_
      show k_X7_rarityOf_14 Q dp _ (nI r) (nI k) S
      unfold k_X7_rarityOf_14
      refine pk_le k 1 (fun _ => ?_) (fun z => absurd z (by omega))
      obtain rfl : k = 0 := by omega
      have : rarL 0 0 = 1 := rfl
      rw [show rarN all hv = r by omega] at h; exact h
    | succ N ih =>
      intro k r hk hk31 hr
      unfold k_X7_rarityOf_14L
      refine fun P hP => hP _ ?_
      show k_X7_rarityOf_14 Q dp _ (nI r) (nI k) S
      unfold k_X7_rarityOf_14
      refine pk_le k 1 (fun z => ?_) (fun z => ?_)
      · have : rarL k k = 1 := by
          rcases (show k = 0 ∨ k = 1 by omega) with rfl | rfl <;> rfl
        rw [show rarN all hv = r by omega] at h; exact h
      · rintro _ rfl _ rfl
        rw [nI_add, pk_div hk31 (by decide) (by decide)]
        have hs := rarL_s (show 1 < k by omega)
        exact ih (k / 2) (r + 1) (by omega) (by omega) (by omega) P hP
  exact key _ _ 1 (Nat.le_refl _) (by omega) (by unfold rarN; omega)
end RD
