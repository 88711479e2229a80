/-! rows are copied; a text's tokens -/
theorem app1_get {α : Type} {l : List α} {y x : α} {k : Nat} : (l ++ [y])[k]? = some x ↔ l[k]? = some x ∨ (k = l.length ∧ x = y) := by
  rcases Nat.lt_or_ge k l.length with h | h
  · rw [List.getElem?_append_left h]
    constructor
    · exact Or.inl
    · rintro (z | ⟨z, -⟩)
      · exact z
      · omega
  · rw [List.getElem?_append_right h, List.getElem?_eq_none (l := l) h]
    constructor
    · intro z
      have hk : k - l.length = 0 := by
        rcases Nat.eq_zero_or_pos (k - l.length) with q | q
        · exact q
        · rw [List.getElem?_eq_none (by show 1 ≤ k - l.length; omega)] at z; exact absurd z (by simp)
      rw [hk] at z
      exact Or.inr ⟨by omega, (Option.some.inj z).symm⟩
    · rintro (z | ⟨rfl, rfl⟩)
      · exact absurd z (by simp)
      · rw [Nat.sub_self]; rfl
theorem get_lt {α : Type} {l : List α} {x : α} {k : Nat} (h : l[k]? = some x) : k < l.length := by
  rcases Nat.lt_or_ge k l.length with q | q
  · exact q
  · rw [List.getElem?_eq_none q] at h; exact absurd h (by simp)
theorem get_ex {α : Type} {l : List α} {k : Nat} (h : k < l.length) : ∃ x, l[k]? = some x := ⟨l[k], List.getElem?_eq_getElem h⟩
section CP
variable {S : cS} {dp : Nat}
theorem q_copyJ {Q : Nat → cS → Prop} {a n m mc ms : Nat} (hA : cA S a 15) (hn : cn S a = n) (h1 : n < m) (hm : m < 2 ^ 20) (hc : 1 ≤ mc) (hs : m ≤ ms) (h : ∀ T q, q ∉ cL S → cSub S T (fun _ => False) → cA T q 15 → cn T q = m → (∀ k, k < n → cJ T q k = cJ S a k) → Q q T) : k_J7_copyOf_c38d5 Q dp mc ms a (nI m) S := by
  unfold k_J7_copyOf_c38d5
  refine ⟨hA, w_ne m n (fun _ => ⟨m, rfl, hm, by omega, by omega, ?_⟩) (fun e => absurd e (by omega)) rfl (by rw [hn])⟩
  intro q hq S3 e3
  have s3 : cSub S S3 (fun _ => False) := e3 ▸ sub_A hq
  have hqa : a ≠ q := cm_nq hq hA.1
  have a3 := sub_A1 s3 hA
  have n3 : cn S3 a = n := (sub_cn s3 hA).trans hn
  have q3 : cA S3 q 15 := ⟨hm_Ao e3, hk_Ao e3⟩
  rw [n3, if_neg (fun z => absurd ((nI_ltI (by omega) (by omega)).mp z) (by omega)), nI_clamp (by omega), nI_clamp (by omega)]
  refine ⟨a3, ⟨by omega, by omega⟩, ⟨a3, q3, nI_pos (by decide), nI_pos (by decide), nI_pos (by omega), ?_, ?_, fun z => absurd z (by decide), fun z => absurd z (by decide)⟩, ?_⟩
  · rw [nI_clamp (by omega), nI_clamp (by omega), n3]; omega
  · rw [nI_clamp (by omega), nI_clamp (by omega), hn_Ao e3]; omega
  intro S4 e4
  refine ⟨⟨by omega, by omega⟩, h S4 q hq ?_ ?_ ?_ ?_⟩
  · rw [e4]
    exact fun b hb => ⟨(s3 b hb).1, fun hF => ⟨((s3 b hb).2 hF).1, ((s3 b hb).2 hF).2.1, (upR_n (cm_nq hq hb)).trans ((s3 b hb).2 hF).2.2.1, ((s3 b hb).2 hF).2.2.2⟩⟩
  · rw [e4]; exact q3
  · exact (show cn S4 q = cn S3 q by rw [e4]; rfl).trans (hn_Ao e3)
  · intro k hk
    rw [e4]
    show upR (cJ S3) q _ q k = _
    rw [upR_s, pk_cpy_in (Nat.zero_le _) (by omega), hJ_A e3 hqa rfl]
    congr 1; omega
theorem q_copyI {Q : Nat → cS → Prop} {a n m mc ms : Nat} (hA : cA S a 14) (hn : cn S a = n) (h1 : n < m) (hm : m < 2 ^ 20) (hc : 1 ≤ mc) (hs : m ≤ ms) (h : ∀ T q, q ∉ cL S → cSub S T (fun _ => False) → cA T q 14 → cn T q = m → (∀ k, k < n → cI T q k = cI S a k) → Q q T) : k_J7_copyOf_59c91 Q dp mc ms a (nI m) S := by
  unfold k_J7_copyOf_59c91
  refine ⟨hA, w_ne m n (fun _ => ⟨m, rfl, hm, by omega, by omega, ?_⟩) (fun e => absurd e (by omega)) rfl (by rw [hn])⟩
  intro q hq S3 e3
  have s3 : cSub S S3 (fun _ => False) := e3 ▸ sub_A hq
  have hqa : a ≠ q := cm_nq hq hA.1
  have a3 := sub_A1 s3 hA
  have n3 : cn S3 a = n := (sub_cn s3 hA).trans hn
  have q3 : cA S3 q 14 := ⟨hm_Ao e3, hk_Ao e3⟩
  rw [n3, if_neg (fun z => absurd ((nI_ltI (by omega) (by omega)).mp z) (by omega)), nI_clamp (by omega), nI_clamp (by omega)]
  refine ⟨a3, ⟨by omega, by omega⟩, ⟨a3, q3, nI_pos (by decide), nI_pos (by decide), nI_pos (by omega), ?_, ?_, fun z => absurd z (by decide), fun z => absurd z (by decide)⟩, ?_⟩
  · rw [nI_clamp (by omega), nI_clamp (by omega), n3]; omega
  · rw [nI_clamp (by omega), nI_clamp (by omega), hn_Ao e3]; omega
  intro S4 e4
  refine ⟨⟨by omega, by omega⟩, h S4 q hq ?_ ?_ ?_ ?_⟩
  · rw [e4]
    exact fun b hb => ⟨(s3 b hb).1, fun hF => ⟨((s3 b hb).2 hF).1, (upR_n (cm_nq hq hb)).trans ((s3 b hb).2 hF).2.1, ((s3 b hb).2 hF).2.2.1, ((s3 b hb).2 hF).2.2.2⟩⟩
  · rw [e4]; exact q3
  · exact (show cn S4 q = cn S3 q by rw [e4]; rfl).trans (hn_Ao e3)
  · intro k hk
    rw [e4]
    show upR (cI S3) q _ q k = _
    rw [upR_s, pk_cpy_in (Nat.zero_le _) (by omega), hI_A e3 hqa rfl]
    congr 1; omega
end CP
/-- a text's tokens, in rows of length m -/
def tTk (S : cS) (t m : Nat) (l : List (Int64 × Nat)) : Prop := cA S t 9 ∧ ci S 292 t = nI l.length ∧ l.length ≤ m ∧ m ≤ 444 ∧ ∃ b d, cr S 290 t = some b ∧ cA S b 15 ∧ cn S b = m ∧ cr S 291 t = some d ∧ cA S d 14 ∧ cn S d = m ∧ ∀ k x, l[k]? = some x → cJ S b k = x.1 ∧ cI S d k = nI x.2 ∧ x.2 < 20
/-- the cells of a text's tokens -/
def tF (S : cS) (t z : Nat) : Prop := z = t ∨ cr S 290 t = some z ∨ cr S 291 t = some z
/-- a text's tokens change, nothing else -/
def tEv (S T : cS) (t : Nat) : Prop := cSub S T (tF S t) ∧ (∀ z, tF T t z → tF S t z ∨ z ∉ cL S) ∧ (∀ q, q ≠ 292 → ci T q t = ci S q t) ∧ (∀ q, q ≠ 290 → q ≠ 291 → cr T q t = cr S q t)
section TK
variable {S T U : cS} {dp : Nat}
theorem tEv_rf {t : Nat} : tEv S S t := ⟨sub_rf, fun _ h => Or.inl h, fun _ _ => rfl, fun _ _ _ => rfl⟩
theorem tEv_tr {t : Nat} (h : tEv S T t) (g : tEv T U t) : tEv S U t := by
  obtain ⟨h1, h2, h3, h4⟩ := h
  obtain ⟨g1, g2, g3, g4⟩ := g
  refine ⟨sub_tr h1 g1 (fun a ha z => (h2 a z).elim id (fun q => absurd ha q)), fun z hz => ?_, fun q hq => (g3 q hq).trans (h3 q hq), fun q a b => (g4 q a b).trans (h4 q a b)⟩
  rcases g2 z hz with q | q
  · exact h2 z q
  · exact Or.inr (fun w => q (h1 z w).1.1)
theorem tTk_sub {t m : Nat} {l : List (Int64 × Nat)} {F : Nat → Prop} (h : cSub S T F) (ht : tTk S t m l) (hF : ∀ z, tF S t z → ¬ F z) : tTk T t m l := by
  obtain ⟨h1, h2, h3, h4, b, d, b1, b2, b3, d1, d2, d3, hx⟩ := ht
  have ft := hF t (Or.inl rfl)
  have fb := hF b (Or.inr (Or.inl b1))
  have fd := hF d (Or.inr (Or.inr d1))
  exact ⟨sub_A1 h h1, (sub_ci h h1 ft).trans h2, h3, h4, b, d, (sub_cr h h1 ft).trans b1, sub_A1 h b2, (sub_cn h b2).trans b3, (sub_cr h h1 ft).trans d1, sub_A1 h d2, (sub_cn h d2).trans d3, by rw [sub_cJ h b2 fb, sub_cI h d2 fd]; exact hx⟩
theorem q_codeAt {Q : Int64 → cS → Prop} {t m k : Nat} {l : List (Int64 × Nat)} {x : Int64 × Nat} (ht : tTk S t m l) (hk : l[k]? = some x) (h : Q x.1 S) : k_X9_codeAt Q dp t (nI k) S := by
  obtain ⟨h1, h2, h3, h4, b, d, b1, b2, b3, d1, d2, d3, hx⟩ := ht
  have hl := get_lt hk
  unfold k_X9_codeAt
  rw [h2]
  refine w_pos k ⟨h1, (w_nle l.length k (fun _ => ?_) (fun z => absurd z (by omega))).symm⟩
  refine ⟨h1, b, b1, b2, pk_lt k m (fun _ => ⟨h1, b, b1, cX_mk b2 b3 (by omega) (show k < m by omega) rfl, ?_⟩) (fun z => absurd z (by omega)) rfl (by rw [b3])⟩
  rw [nI_clamp (by omega), (hx k x hk).1]; exact h
theorem q_placeAt {Q : Int32 → cS → Prop} {t m k : Nat} {l : List (Int64 × Nat)} {x : Int64 × Nat} (ht : tTk S t m l) (hk : l[k]? = some x) (h : Q (nI x.2) S) : k_X9_placeAt Q dp t (nI k) S := by
  obtain ⟨h1, h2, h3, h4, b, d, b1, b2, b3, d1, d2, d3, hx⟩ := ht
  have hl := get_lt hk
  unfold k_X9_placeAt
  rw [h2]
  refine w_pos k ⟨h1, (w_nle l.length k (fun _ => ?_) (fun z => absurd z (by omega))).symm⟩
  refine ⟨h1, d, d1, d2, pk_lt k m (fun _ => ⟨h1, d, d1, cX_mk d2 d3 (by omega) (show k < m by omega) rfl, ?_⟩) (fun z => absurd z (by omega)) rfl (by rw [d3])⟩
  rw [nI_clamp (by omega), (hx k x hk).2.1]; exact h
theorem tTk_pl {t m : Nat} {l : List (Int64 × Nat)} (ht : tTk S t m l) : ∀ x, x ∈ l → x.2 < 20 := by
  obtain ⟨h1, h2, h3, h4, b, d, b1, b2, b3, d1, d2, d3, hx⟩ := ht
  intro x hxl
  obtain ⟨k, hk⟩ := List.getElem?_of_mem hxl
  exact (hx k x hk).2.2
theorem q_placesOf {Q : Int32 → cS → Prop} {t m : Nat} {l : List (Int64 × Nat)} {c : Int64} (ht : tTk S t m l) (h : Q (nI (pmk c l)) S) : k_X9_placesOf Q dp t c S := by
  obtain ⟨h1, h2, h3, h4, b, d, b1, b2, b3, d1, d2, d3, hx⟩ := id ht
  unfold k_X9_placesOf k_X9_placesOf_5L
  refine lfp_cnt l.length (fun k y => y = (t, c, nI (pmk c (l.take k)), nI k, S)) ?_ rfl
  rintro P k _ hk rfl ih
  show k_X9_placesOf_5 Q dp _ t c (nI (pmk c (l.take k))) (nI k) S
  have go : ∀ z : Nat, k < l.length → z = pmk c (l.take (k + 1)) → k_X9_placesOf_58 Q dp (fun b0 b1 b2 b3 S => P (b0, b1, b2, b3, S)) t c (nI z) (nI k) S := by
    intro z hkl hz
    unfold k_X9_placesOf_58
    rintro _ rfl
    rw [nI_add, hz]
    exact ih _ hkl rfl
  unfold k_X9_placesOf_5
  rw [h2]
  refine ⟨h1, (w_nle l.length k (fun hkl => ?_) (fun z => ?_)).symm⟩
  · obtain ⟨x, hk1⟩ := get_ex hkl
    refine ⟨h1, b, b1, b2, (w_nle m k (fun _ => ?_) (fun z => absurd z (by omega)) (by rw [b3]) rfl).symm⟩
    refine ⟨h1, d, d1, d2, (w_nle m k (fun _ => ?_) (fun z => absurd z (by omega)) (by rw [d3]) rfl).symm⟩
    refine ⟨h1, b, b1, cX_mk b2 b3 (by omega) (show k < m by omega) rfl, ?_⟩
    have e := pmk_take (c := c) hk1
    obtain ⟨x1, x2, x3⟩ := hx k x hk1
    rw [nI_clamp (by omega), x1]
    refine w_l (fun n => ?_) (fun n => ⟨h1, d, d1, cX_mk d2 d3 (by omega) (show k < m by omega) rfl, ?_⟩)
    · exact go _ hkl (by rw [e, if_neg n, Nat.or_zero])
    · rintro _ rfl
      rw [x2, nI_shl1 (by omega), nI_or]
      exact go _ hkl (by rw [e, if_pos n])
  · obtain rfl : k = l.length := by omega
    rw [List.take_length]; exact h
/-- the length of a text's rows, one token more -/
def gwT (m n : Nat) : Nat := if n = m then 2 * m + 4 else m
theorem q_put62 {Q : cS → Prop} {t m p mc ms cd dd : Nat} {l : List (Int64 × Nat)} {c : Int64} (ht : tTk S t m l) (hl : l.length < m) (hp : p < 20) (hc : cd ≤ mc) (hs : dd ≤ ms) (h : ∀ T, tEv S T t → tTk T t m (l ++ [(c, p)]) → Q T) : k_X9_putToken_62 Q dp mc ms t c (nI p) cd dd S := by
  obtain ⟨h1, h2, h3, h4, b, d, b1, b2, b3, d1, d2, d3, hx⟩ := ht
  unfold k_X9_putToken_62
  rw [h2]
  refine ⟨h1, b, b1, h1, cX_mk b2 b3 (by omega) hl rfl, ?_⟩
  intro S3 e3
  rw [nI_clamp (by omega)] at e3
  have s3 : cSub S S3 (tF S t) := e3 ▸ sub_SJ (Or.inr (Or.inl b1))
  have c3 := hi_SJ e3 h2
  rw [c3]
  refine ⟨sub_A1 s3 h1, d, hr_SJ e3 d1, sub_A1 s3 h1, cX_mk (sub_A1 s3 d2) ((sub_cn s3 d2).trans d3) (by omega) hl rfl, ?_⟩
  intro S5 e5
  rw [nI_clamp (by omega)] at e5
  have s5 : cSub S S5 (tF S t) := sub_tr s3 (e5 ▸ sub_SI (Or.inr (Or.inr d1))) (fun _ _ z => z)
  have c5 := hi_SI e5 c3
  refine ⟨sub_A1 s5 h1, sub_A1 s5 h1, ?_⟩
  intro S6 e6
  rw [c5, nI_add] at e6
  have s6 : cSub S S6 (tF S t) := sub_tr s5 (e6 ▸ sub_Si (Or.inl rfl)) (fun _ _ z => z)
  have r6 : ∀ q, cr S6 q t = cr S q t := fun q => hr_Si e6 (hr_SI e5 (hr_SJ e3 rfl))
  refine ⟨⟨hc, hs⟩, h S6 ⟨s6, fun z hz => Or.inl ?_, fun q hq => hi_Si_q e6 hq (hi_SI e5 (hi_SJ e3 rfl)), fun q _ _ => r6 q⟩ ⟨sub_A1 s6 h1, (hi_Si_s e6).trans (by rw [List.length_append]; rfl), by rw [List.length_append]; exact hl, h4, b, d, (r6 _).trans b1, sub_A1 s6 b2, (sub_cn s6 b2).trans b3, (r6 _).trans d1, sub_A1 s6 d2, (sub_cn s6 d2).trans d3, ?_⟩⟩
  · unfold tF at hz ⊢
    rw [r6, r6] at hz; exact hz
  · have eJ : cJ S6 b = upR (cJ S b) l.length c := hJ_Si e6 (hJ_SI e5 (hJ_SJ_e e3 rfl))
    have eI : cI S6 d = upR (cI S d) l.length (nI p) := hI_Si e6 (hI_SI_e e5 (hI_SJ e3 rfl))
    intro k x hk
    rw [eJ, eI]
    rcases app1_get.mp hk with z | ⟨rfl, rfl⟩
    · have hkl := get_lt z
      rw [upR_n (by omega), upR_n (by omega)]; exact hx k x z
    · rw [upR_s, upR_s]; exact ⟨rfl, rfl, hp⟩
theorem q_put24 {Q : cS → Prop} {t m p mc ms : Nat} {l : List (Int64 × Nat)} {c : Int64} (ht : tTk S t m l) (hl : l.length = m) (hm : m < 221) (hp : p < 20) (hc : 2 ≤ mc) (hs : 4 * m + 8 ≤ ms) (h : ∀ T, tEv S T t → tTk T t (2 * m + 4) (l ++ [(c, p)]) → Q T) : k_X9_putToken_24 Q dp mc ms t c (nI p) 0 0 S := by
  obtain ⟨h1, h2, h3, h4, b, d, b1, b2, b3, d1, d2, d3, hx⟩ := ht
  unfold k_X9_putToken_24
  have e2 : nI l.length * nI 2 + nI 4 = nI (2 * m + 4) := by rw [pk_mul, nI_add, hl, Nat.mul_comm]
  rw [h2, e2]
  refine ⟨h1, b, b1, h1, 1, 2 * m + 4, by omega, by omega, q_copyJ b2 b3 (by omega) (by omega) (Nat.le_refl _) (Nat.le_refl _) ?_⟩
  intro S5 q hq s5 q1 q2 q3
  have nF : ¬ False := fun z => z
  refine ⟨sub_A1 s5 h1, ?_⟩
  intro S6 e6
  have t5 : cSub S S6 (tF S t) := sub_tr (sub_wk s5 (fun _ _ z => z.elim)) (e6 ▸ sub_Sr (Or.inl rfl)) (fun _ _ z => z)
  have tq : t ≠ q := cm_nq hq h1.1
  have c6 : ci S6 292 t = nI l.length := hi_Sr e6 ((sub_ci s5 h1 nF).trans h2)
  have d6 : cr S6 291 t = some d := hr_Sr_q e6 (by decide) ((sub_cr s5 h1 nF).trans d1)
  have a6 := sub_A1 t5 h1
  rw [c6, e2]
  refine ⟨a6, d, d6, a6, 1, 2 * m + 4, by omega, by omega, q_copyI (sub_A1 t5 d2) ((sub_cn t5 d2).trans d3) (by omega) (by omega) (Nat.le_refl _) (Nat.le_refl _) ?_⟩
  intro S7 r hr s7 r1 r2 r3
  have t7 : cSub S S7 (tF S t) := sub_tr t5 s7 (fun _ _ z => z.elim)
  refine ⟨sub_A1 t7 h1, ?_⟩
  intro S8 e8
  have t8 : cSub S S8 (tF S t) := sub_tr t7 (e8 ▸ sub_Sr (Or.inl rfl)) (fun _ _ z => z)
  have q6 : cA S6 q 15 := ⟨hm_Sr e6 q1.1, hk_Sr e6 q1.2⟩
  have q7 := sub_A1 s7 q6
  have b8 : cr S8 290 t = some q := hr_Sr_q e8 (by decide) ((sub_cr s7 a6 nF).trans (hr_Sr_s e6))
  have d8 : cr S8 291 t = some r := hr_Sr_s e8
  have i8 : ∀ p, ci S8 p t = ci S p t := fun p => hi_Sr e8 ((sub_ci s7 a6 nF).trans (hi_Sr e6 (sub_ci s5 h1 nF)))
  have k8 : tTk S8 t (2 * m + 4) l := by
    refine ⟨sub_A1 t8 h1, (i8 _).trans h2, by omega, by omega, q, r, b8, ⟨hm_Sr e8 q7.1, hk_Sr e8 q7.2⟩, hn_Sr e8 ((sub_cn s7 q6).trans (hn_Sr e6 q2)), d8, ⟨hm_Sr e8 r1.1, hk_Sr e8 r1.2⟩, hn_Sr e8 r2, ?_⟩
    intro k x hk
    have hkl := get_lt hk
    have eJ : cJ S8 q = cJ S5 q := hJ_Sr e8 ((sub_cJ s7 q6 nF).trans (hJ_Sr e6 rfl))
    have eI : cI S8 r = cI S7 r := hI_Sr e8 rfl
    have eI6 : cI S6 d = cI S d := hI_Sr e6 (sub_cI s5 d2 nF)
    rw [eJ, eI, q3 k (by omega), r3 k (by omega), eI6]
    exact hx k x hk
  have v8 : tEv S S8 t := by
    refine ⟨t8, fun z hz => ?_, fun p _ => i8 p, fun p p1 p2 => hr_Sr_q e8 p2 ((sub_cr s7 a6 nF).trans (hr_Sr_q e6 p1 (sub_cr s5 h1 nF)))⟩
    unfold tF at hz
    rw [b8, d8] at hz
    rcases hz with z | z | z
    · exact Or.inl (Or.inl z)
    · exact Or.inr (fun w => hq (Option.some.inj z ▸ w))
    · exact Or.inr (fun w => hr (t5 _ (Option.some.inj z ▸ w)).1.1)
  exact q_put62 k8 (by omega) hp (by omega) (by omega) (fun T hv hT => h T (tEv_tr v8 hv) hT)
theorem q_putToken {Q : cS → Prop} {t m p mc ms : Nat} {l : List (Int64 × Nat)} {c : Int64} (ht : tTk S t m l) (hl : l.length < 221) (hp : p < 20) (hc : gwT m l.length ≤ m + 2 * mc) (hs : 4 * gwT m l.length ≤ 4 * m + ms) (h : ∀ T, tEv S T t → tTk T t (gwT m l.length) (l ++ [(c, p)]) → Q T) : k_X9_putToken Q dp mc ms t c (nI p) S := by
  obtain ⟨h1, h2, h3, h4, b, d, b1, b2, b3, d1, d2, d3, hx⟩ := id ht
  unfold k_X9_putToken
  rw [h2]
  unfold gwT at hc hs h
  refine ⟨h1, h1, b, b1, b2, (w_nle m l.length (fun z => ?_) (fun z => ?_) (by rw [b3]) rfl).symm⟩
  · rw [if_neg (by omega)] at h
    exact ⟨h1, h1, d, d1, d2, pk_lt l.length m (fun _ => q_put62 ht z hp (by omega) (by omega) h) (fun y => absurd y (by omega)) rfl (by rw [d3])⟩
  · have e : l.length = m := by omega
    rw [if_pos e] at h hc hs
    exact q_put24 ht e (by omega) hp (by omega) (by omega) h
theorem gwT_le {m n : Nat} : m ≤ gwT m n := by unfold gwT; split <;> omega
end TK
