/-! lists -/
/-- (nothing is asked: the static row lies outside of the pool, and rows that are made are told to be others) -/
def dpO (_ : Nat) (_ : cS) : Prop := True
theorem dp_O {dp : Nat} {S : cS} : dpO dp S := trivial
def kOb (kk : Nat) : Prop := kk = 0 ∨ kk = 2 ∨ kk = 4 ∨ kk = 5 ∨ kk = 6 ∨ kk = 10
/-- a list of objects of one kind, its row of length m -/
def lsT (S : cS) (dp a kk : Nat) (l : List Nat) (m : Nat) : Prop := cA S a 12 ∧ ci S 386 a = nI l.length ∧ l.length ≤ m ∧ m < 8000 ∧ kOb kk ∧ (∀ y, y ∈ l → cA S y kk) ∧ ∃ b, cr S 385 a = some b ∧ ((b = dp ∧ m = 0) ∨ (b ≠ dp ∧ 10 ≤ m ∧ cA S b 17 ∧ cn S b = m ∧ ∀ k y, l[k]? = some y → cO S b k = some y))
/-- its cells -/
def lsF (S : cS) (dp a z : Nat) : Prop := z = a ∨ (cr S 385 a = some z ∧ z ≠ dp)
def lsEv (S T : cS) (dp a : Nat) : Prop := cSub S T (lsF S dp a) ∧ ∀ z, lsF T dp a z → lsF S dp a z ∨ z ∉ cL S
/-- its row's length, one more -/
def gwL (m n : Nat) : Nat := if n = m then (if m = 0 then 10 else m + m / 2) else m
section LS
variable {S T U : cS} {dp a kk m : Nat} {l : List Nat}
theorem lsEv_rf : lsEv S S dp a := ⟨sub_rf, fun _ h => Or.inl h⟩
theorem lsEv_tr (h : lsEv S T dp a) (g : lsEv T U dp a) : lsEv S U dp a := by
  refine ⟨sub_tr h.1 g.1 (fun b hb z => (h.2 b z).elim id (fun q => absurd hb q)), fun z hz => ?_⟩
  rcases g.2 z hz with q | q
  · exact h.2 z q
  · exact Or.inr (fun w => q (h.1 z w).1.1)
theorem lsT_sub {F : Nat → Prop} (h : cSub S T F) (ht : lsT S dp a kk l m) (hF : ∀ z, lsF S dp a z → ¬ F z) : lsT T dp a kk l m := by
  obtain ⟨h1, h2, h3, h4, h5, h6, b, hb, hx⟩ := ht
  have fa := hF a (Or.inl rfl)
  refine ⟨sub_A1 h h1, (sub_ci h h1 fa).trans h2, h3, h4, h5, fun y hy => sub_A1 h (h6 y hy), b, (sub_cr h h1 fa).trans hb, ?_⟩
  rcases hx with hx | ⟨x1, x2, x3, x4, x5⟩
  · exact Or.inl hx
  · exact Or.inr ⟨x1, x2, sub_A1 h x3, (sub_cn h x3).trans x4, by rw [sub_cO h x3 (hF b (Or.inr ⟨hb, x1⟩))]; exact x5⟩
theorem lsF_in {z : Nat} (ht : lsT S dp a kk l m) (hz : lsF S dp a z) : z ∈ cL S := by
  obtain ⟨h1, h2, h3, h4, h5, h6, b, hb, hx⟩ := ht
  rcases hz with y | ⟨y, y2⟩
  · exact y ▸ h1.1
  · obtain rfl : b = z := Option.some.inj (hb.symm.trans y)
    rcases hx with hx | hx
    · exact absurd hx.1 y2
    · exact hx.2.2.1.1
theorem lsT_384 {x : Int32} (e : T = cSi S 384 a x) (ht : lsT S dp a kk l m) : lsT T dp a kk l m ∧ lsEv S T dp a := by
  obtain ⟨h1, h2, h3, h4, h5, h6, b, hb, hx⟩ := ht
  have s : cSub S T (lsF S dp a) := e ▸ sub_Si (Or.inl rfl)
  have r : cr T 385 a = cr S 385 a := by rw [e]; rfl
  refine ⟨⟨sub_A1 s h1, hi_Si_q e (by decide) h2, h3, h4, h5, fun y hy => sub_A1 s (h6 y hy), b, r.trans hb, ?_⟩, s, fun z hz => Or.inl ?_⟩
  · rcases hx with hx | ⟨x1, x2, x3, x4, x5⟩
    · exact Or.inl hx
    · exact Or.inr ⟨x1, x2, sub_A1 s x3, (sub_cn s x3).trans x4, by rw [show cO T b = cO S b by rw [e]; rfl]; exact x5⟩
  · unfold lsF at hz ⊢
    rw [r] at hz; exact hz
theorem q_lsize {Q : Int32 → cS → Prop} (ht : lsT S dp a kk l m) (h : Q (nI l.length) S) : k_Jx4a65c_size_8abf5 Q dp a S := by
  unfold k_Jx4a65c_size_8abf5
  rw [ht.2.1]; exact ⟨ht.1, h⟩
theorem q_lempty {Q : Int32 → cS → Prop} (ht : lsT S dp a kk l m) (h : Q (bI (l.length == 0)) S) : k_Jx4a65c_isEmpty_aae02 Q dp a S := by
  unfold k_Jx4a65c_isEmpty_aae02
  have h3 := ht.2.2.1
  have h4 := ht.2.2.2.1
  rw [ht.2.1]
  refine ⟨ht.1, w_nz l.length (fun z => ?_) (fun z => ?_)⟩
  · rw [show (l.length == 0) = false by rw [beq_eq_false_iff_ne]; omega] at h; exact h
  · rw [z] at h; exact h
theorem q_lget {Q : Nat → cS → Prop} {k y : Nat} (ht : lsT S dp a kk l m) (hk : l[k]? = some y) (h : Q y S) : k_Jx4a65c_get_915e3 Q dp a (nI k) S := by
  obtain ⟨h1, h2, h3, h4, h5, h6, b, hb, hx⟩ := ht
  have hl := get_lt hk
  unfold k_Jx4a65c_get_915e3 k_J15_checkIndex_7cf53 k_J3_checkIndex_8e157
  rw [h2]
  refine ⟨h1, fun _ => w_pos k (pk_lt k l.length (fun _ => ⟨h1, ?_⟩) (fun z => absurd z (by omega))), fun b e => nomatch e⟩
  unfold k_Jx4a65c_elementData_915e3
  rcases hx with hx | ⟨x1, x2, x3, x4, x5⟩
  · omega
  · refine ⟨h1, b, hb, fun z => absurd z x1, fun _ => ⟨cX_mk x3 x4 (by omega) (show k < m by omega) rfl, y, ?_, h⟩⟩
    rw [nI_clamp (by omega)]; exact x5 k y hk
theorem q_lgrow {Q : Nat → cS → Prop} {mc ms : Nat} (hdp : dpO dp S) (ht : lsT S dp a kk l m) (hl : l.length = m) (hm : m < 5000) (hc : 1 ≤ mc) (hs : gwL m m ≤ ms) (h : ∀ T q, lsEv S T dp a → lsT T dp a kk l (gwL m m) → cr T 385 a = some q → q ≠ dp → Q q T) : k_Jx4a65c_grow_d5877 Q dp mc ms a S := by
  obtain ⟨h1, h2, h3, h4, h5, h6, b, hb, hx⟩ := ht
  have fin : ∀ (S1 T : cS) (q M : Nat), q ∉ cL S → q ≠ dp → cSub S S1 (lsF S dp a) → cA S1 q 17 → cn S1 q = M → (∀ k y, l[k]? = some y → cO S1 q k = some y) → M = gwL m m → (∀ p, ci S1 p a = ci S p a) → T = cSr S1 385 a (some q) → Q q T := by
    intro S1 T q M hq hqd s q1 q2 q3 hM hi e
    have sT : cSub S T (lsF S dp a) := sub_tr s (e ▸ sub_Sr (F := lsF S dp a) (Or.inl rfl)) (fun _ _ z => z)
    have c385 : cr T 385 a = some q := hr_Sr_s e
    have hM10 : 10 ≤ gwL m m ∧ gwL m m < 8000 ∧ m ≤ gwL m m := by
      unfold gwL
      rw [if_pos rfl]
      rcases hx with hx | hx
      · rw [if_pos hx.2]; omega
      · rw [if_neg (by omega)]; omega
    refine h T q ⟨sT, fun z hz => ?_⟩ ⟨sub_A1 sT h1, (hi_Sr e (hi _)).trans h2, by omega, hM10.2.1, h5, fun y hy => sub_A1 sT (h6 y hy), q, c385, Or.inr ⟨hqd, hM10.1, ⟨hm_Sr e q1.1, hk_Sr e q1.2⟩, hn_Sr e (q2.trans hM), fun k y hk => ?_⟩⟩ c385 hqd
    · rcases hz with z1 | ⟨z1, -⟩
      · exact Or.inl (Or.inl z1)
      · rw [c385] at z1
        exact Or.inr (Option.some.inj z1 ▸ hq)
    · rw [show cO T q = cO S1 q by rw [e]; rfl]; exact q3 k y hk
  unfold k_Jx4a65c_grow_d5877
  refine ⟨h1, h1, mc, ms, by omega, by omega, ?_⟩
  rw [h2, nI_add]
  unfold k_Jx4a65c_grow_92f84
  refine ⟨h1, b, hb, ?_⟩
  rcases hx with ⟨rfl, hm0⟩ | ⟨x1, x2, x3, x4, x5⟩
  · have e10 : gwL m m = 10 := by unfold gwL; rw [if_pos rfl, if_pos hm0]
    refine ⟨fun _ => ⟨fun z => absurd z (by decide), fun _ => ⟨h1, b, hb, fun _ => ⟨fun _ => ⟨⟨by omega, by omega⟩, 10, ?_, by decide, by omega, by omega, fun q hq hqd S7 e7 => ?_⟩, fun z => absurd rfl z⟩, fun z => absurd rfl z⟩⟩, fun z => absurd rfl z⟩
    · exact if_neg (fun z => absurd ((nI_ltI (by decide) (by omega)).mp z) (by omega))
    · have s7 : cSub S S7 (lsF S b a) := e7 ▸ sub_A hq
      refine ⟨sub_A1 s7 h1, fun S8 e8 => ⟨⟨by omega, by omega⟩, ⟨by omega, by omega⟩, fin S7 S8 q 10 hq hqd s7 ⟨hm_Ao e7, hk_Ao e7⟩ (hn_Ao e7) (fun k y hk => absurd (get_lt hk) (by omega)) e10.symm (fun p => hi_A e7 rfl) e8⟩⟩
  · have eg : gwL m m = m + m / 2 := by unfold gwL; rw [if_pos rfl, if_neg (by omega)]
    refine ⟨fun z => absurd z x1, fun _ => ⟨x3, ?_⟩⟩
    rintro _ rfl
    rw [x4]
    refine ⟨fun _ => ?_, fun z => absurd ((nI_ltI (a := 0) (by decide) (by omega)).mpr (by omega)) z⟩
    unfold k_Jx4a65c_grow_92f84_20
    refine ⟨0, 0, by omega, by omega, ?_⟩
    unfold k_J8_newLength_cabcc
    refine ⟨⟨by omega, by omega⟩, ?_⟩
    have e1 : nI (l.length + 1) - nI m = nI 1 := by rw [pk_sub (by omega), hl]; congr 1; omega
    rw [e1, nI_shr (by omega) (by decide), if_pos ((nI_ltI (by decide) (by omega)).mpr (by omega)), nI_add]
    rintro _ rfl
    refine ⟨fun z => absurd ((nI_le0 (by omega)).mp z) (by omega), fun _ => ⟨fun z => absurd ((nI_ltI (a := 2147483639) (by decide) (by omega)).mp z) (by omega), fun _ => ⟨⟨by omega, by omega⟩, h1, b, hb, fun z => absurd z x1, fun _ => ⟨1, m + m / 2 ^ 1, by omega, by omega, ?_⟩⟩⟩⟩
    unfold k_J7_copyOf_1904c
    refine ⟨m + m / 2 ^ 1, rfl, by omega, by omega, by omega, x3, fun q hq hqd S7 e7 => ?_⟩
    have s7 : cSub S S7 (lsF S dp a) := e7 ▸ sub_A hq
    have n7 : cn S7 b = m := (sub_cn s7 x3).trans x4
    have b7 := sub_A1 s7 x3
    have O7 : cO S7 b = cO S b := hO_A e7 (cm_nq hq x3.1) rfl
    refine ⟨b7, ?_⟩
    rw [n7, if_neg (fun z => absurd ((nI_ltI (by omega) (by omega)).mp z) (by omega))]
    rintro _ rfl
    rw [nI_clamp (by omega), nI_clamp (by omega)]
    refine ⟨⟨b7, ⟨hm_Ao e7, hk_Ao e7⟩, nI_pos (by decide), nI_pos (by decide), nI_pos (by omega), ?_, ?_, fun z => absurd z (by decide), fun _ => ⟨kk, h5, fun i hi y hy => ?_⟩⟩, fun S8 e8 => ?_⟩
    · rw [nI_clamp (by omega), nI_clamp (by omega), n7]; omega
    · rw [nI_clamp (by omega), nI_clamp (by omega), hn_Ao e7]; omega
    · rw [nI_clamp (by omega)] at hi hy
      rw [O7, Nat.zero_add] at hy
      obtain ⟨y', hy'⟩ := get_ex (l := l) (k := i) (by omega)
      obtain rfl : y' = y := Option.some.inj ((x5 i y' hy').symm.trans hy)
      exact sub_A1 s7 (h6 _ (List.mem_of_getElem? hy'))
    · have s8 : cSub S S8 (lsF S dp a) := by
        rw [e8]
        exact fun c hc => ⟨(s7 c hc).1, fun hF => ⟨((s7 c hc).2 hF).1, ((s7 c hc).2 hF).2.1, ((s7 c hc).2 hF).2.2.1, (upR_n (cm_nq hq hc)).trans ((s7 c hc).2 hF).2.2.2⟩⟩
      have q7 : cA S7 q 17 := ⟨hm_Ao e7, hk_Ao e7⟩
      have q8 : cA S8 q 17 := by rw [e8]; exact q7
      have n8 : cn S8 q = m + m / 2 ^ 1 := (show cn S8 q = cn S7 q by rw [e8]; rfl).trans (hn_Ao e7)
      have i8 : ∀ p, ci S8 p a = ci S p a := fun p => (show ci S8 p a = ci S7 p a by rw [e8]; rfl).trans (hi_A e7 rfl)
      refine ⟨sub_A1 s8 h1, fun S9 e9 => ⟨⟨by omega, by omega⟩, ⟨by omega, by omega⟩, fin S8 S9 q (m + m / 2 ^ 1) hq hqd s8 q8 n8 (fun k y hk => ?_) eg.symm i8 e9⟩⟩
      have hkl := get_lt hk
      rw [e8]
      show upR (cO S7) q _ q k = _
      rw [upR_s, pk_cpy_in (Nat.zero_le _) (by omega), O7, show 0 + (k - 0) = k by omega]
      exact x5 k y hk
theorem q_ladd11 {Q : cS → Prop} {b y mc ms cd dd : Nat} (ht : lsT S dp a kk l m) (hb : cr S 385 a = some b) (hbd : b ≠ dp) (hl : l.length < m) (hy : cA S y kk) (hc : cd ≤ mc) (hs : dd ≤ ms) (h : ∀ T, lsEv S T dp a → lsT T dp a kk (l ++ [y]) m → Q T) : k_Jx4a65c_add_72be8_11 Q dp mc ms a y b (nI l.length) cd dd S := by
  obtain ⟨h1, h2, h3, h4, h5, h6, b', hb', hx⟩ := ht
  obtain rfl : b = b' := Option.some.inj (hb.symm.trans hb')
  rcases hx with hx | ⟨x1, x2, x3, x4, x5⟩
  · exact absurd hx.1 hbd
  unfold k_Jx4a65c_add_72be8_11
  refine ⟨fun z => absurd z hbd, fun _ => ⟨cX_mk x3 x4 (by omega) hl rfl, ⟨hy.1, by rw [hy.2]; exact h5⟩, fun S1 e1 => ?_⟩⟩
  rw [nI_clamp (by omega)] at e1
  have s1 : cSub S S1 (lsF S dp a) := e1 ▸ sub_SO (Or.inr ⟨hb, hbd⟩)
  refine ⟨sub_A1 s1 h1, fun S2 e2 => ⟨⟨hc, hs⟩, ?_⟩⟩
  rw [nI_add] at e2
  have s2 : cSub S S2 (lsF S dp a) := sub_tr s1 (e2 ▸ sub_Si (F := lsF S dp a) (Or.inl rfl)) (fun _ _ z => z)
  have r2 : cr S2 385 a = cr S 385 a := hr_Si e2 (hr_SO e1 rfl)
  have O2 : cO S2 b = upR (cO S b) l.length (some y) := hO_Si e2 (hO_SO_e e1 rfl)
  refine h S2 ⟨s2, fun z hz => Or.inl ?_⟩ ⟨sub_A1 s2 h1, (hi_Si_s e2).trans (by rw [List.length_append]; rfl), by rw [List.length_append]; exact hl, h4, h5, fun z hz => ?_, b, r2.trans hb, Or.inr ⟨x1, x2, sub_A1 s2 x3, (sub_cn s2 x3).trans x4, fun k z hk => ?_⟩⟩
  · unfold lsF at hz ⊢
    rw [r2] at hz; exact hz
  · rcases List.mem_append.mp hz with w | w
    · exact sub_A1 s2 (h6 z w)
    · rw [List.mem_singleton.mp w]; exact sub_A1 s2 hy
  · rw [O2]
    rcases app1_get.mp hk with w | ⟨rfl, rfl⟩
    · rw [upR_n (by have := get_lt w; omega)]; exact x5 k z w
    · exact upR_s
theorem q_ladd {Q : Int32 → cS → Prop} {y mc ms : Nat} (hdp : dpO dp S) (ht : lsT S dp a kk l m) (hm : m < 5000) (hy : cA S y kk) (hc : (if l.length = m then 1 else 0) ≤ mc) (hs : (if l.length = m then gwL m m else 0) ≤ ms) (h : ∀ T, lsEv S T dp a → lsT T dp a kk (l ++ [y]) (gwL m l.length) → Q (bI true) T) : k_Jx4a65c_add_9ea2d Q dp mc ms a y S := by
  unfold k_Jx4a65c_add_9ea2d
  refine ⟨ht.1, ht.1, fun S1 e1 => ?_⟩
  obtain ⟨ht1, v1⟩ := lsT_384 e1 ht
  have hdp1 : dpO dp S1 := dp_O
  have hy1 := sub_A1 v1.1 hy
  obtain ⟨h1, h2, h3, h4, h5, h6, b, hb, hx⟩ := id ht1
  have grow : l.length = m → k_Jx4a65c_grow_d5877 (fun r_5 S_5 => k_Jx4a65c_add_72be8_11 (fun S_5 => (0 + mc ≤ mc ∧ 0 + ms ≤ ms) ∧ Q (bI true) S_5) dp mc ms a y r_5 (nI l.length) (0 + mc) (0 + ms) S_5) dp mc ms a S1 := by
    intro e
    rw [if_pos e] at hc hs
    rw [e] at h
    refine q_lgrow hdp1 ht1 e hm hc hs (fun T q vT tT cT nq => q_ladd11 tT cT nq ?_ (sub_A1 vT.1 hy1) (by omega) (by omega) (fun U vU tU => ⟨⟨by omega, by omega⟩, h U (lsEv_tr v1 (lsEv_tr vT vU)) tU⟩))
    unfold gwL
    rw [if_pos rfl]
    split <;> omega
  refine ⟨h1, b, hb, ?_⟩
  rw [h2]
  rcases hx with ⟨rfl, hm0⟩ | ⟨x1, x2, x3, x4, x5⟩
  · refine ⟨fun _ => ⟨h1, h1, mc, ms, by omega, by omega, ?_⟩, fun z => absurd rfl z⟩
    unfold k_Jx4a65c_add_72be8
    exact ⟨fun _ => w_ne l.length 0 (fun z => absurd z (by omega)) (fun _ => ⟨h1, mc, ms, by omega, by omega, grow (by omega)⟩), fun z => absurd rfl z⟩
  · refine ⟨fun z => absurd z x1, fun _ => ⟨h1, h1, mc, ms, by omega, by omega, ?_⟩⟩
    unfold k_Jx4a65c_add_72be8
    refine ⟨fun z => absurd z x1, fun _ => ⟨x3, w_ne l.length m (fun z => ?_) (fun z => ⟨h1, mc, ms, by omega, by omega, grow z⟩) rfl (by rw [x4])⟩⟩
    have eg : gwL m l.length = m := if_neg z
    rw [eg] at h
    exact q_ladd11 ht1 hb x1 (by omega) hy1 (by omega) (by omega) (fun U vU tU => ⟨⟨by omega, by omega⟩, h U (lsEv_tr v1 vU) tU⟩)
end LS
