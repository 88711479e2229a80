/-! lists: put at a place, taken out, cleared -/
theorem ins_get {l : List Nat} {k y j z : Nat} (hk : k ≤ l.length) (h : (l.take k ++ y :: l.drop k)[j]? = some z) : (j < k ∧ l[j]? = some z) ∨ (j = k ∧ z = y) ∨ (k < j ∧ l[j - 1]? = some z) := by
  have hl : (l.take k).length = k := by rw [List.length_take]; omega
  rcases Nat.lt_or_ge j k with q | q
  · rw [List.getElem?_append_left (by omega), List.getElem?_take_of_lt q] at h
    exact Or.inl ⟨q, h⟩
  · rw [List.getElem?_append_right (by omega), hl] at h
    rcases Nat.eq_zero_or_pos (j - k) with w | w
    · rw [w] at h
      exact Or.inr (Or.inl ⟨by omega, (Option.some.inj h).symm⟩)
    · obtain ⟨i, hi⟩ : ∃ i, j - k = i + 1 := ⟨j - k - 1, by omega⟩
      rw [hi, List.getElem?_cons_succ, List.getElem?_drop] at h
      refine Or.inr (Or.inr ⟨by omega, ?_⟩)
      rw [show j - 1 = k + i by omega]; exact h
theorem ins_len {l : List Nat} {k y : Nat} (hk : k ≤ l.length) : (l.take k ++ y :: l.drop k).length = l.length + 1 := by
  rw [List.length_append, List.length_cons, List.length_take, List.length_drop]; omega
theorem era_get {l : List Nat} {k j z : Nat} (h : (l.eraseIdx k)[j]? = some z) : (j < k ∧ l[j]? = some z) ∨ (k ≤ j ∧ l[j + 1]? = some z) := by
  rw [List.getElem?_eraseIdx] at h
  split at h
  · exact Or.inl ⟨by assumption, h⟩
  · exact Or.inr ⟨by omega, h⟩
section LI
variable {S T U : cS} {dp a kk m : Nat} {l : List Nat}
theorem q_ladd38 {Q : cS → Prop} {b y k mc ms cd dd : Nat} (ht : lsT S dp a kk l m) (hb : cr S 385 a = some b) (hbd : b ≠ dp) (hl : l.length < m) (hk : k ≤ l.length) (hy : cA S y kk) (hc : cd ≤ mc) (hs : dd ≤ ms) (h : ∀ T, lsEv S T dp a → lsT T dp a kk (l.take k ++ y :: l.drop k) m → Q T) : k_Jx4a65c_add_7a177_38 Q dp mc ms a (nI k) y (nI l.length) b cd dd S := by
  obtain ⟨h1, h2, h3, h4, h5, h6, b', hb', hx⟩ := ht
  obtain rfl : b = b' := Option.some.inj (hb.symm.trans hb')
  rcases hx with hx | ⟨x1, x2, x3, x4, x5⟩
  · exact absurd hx.1 hbd
  unfold k_Jx4a65c_add_7a177_38
  rw [nI_add, pk_sub hk, nI_add, nI_clamp (by omega), nI_clamp (by omega), nI_clamp (by omega)]
  refine ⟨fun z => absurd z hbd, fun _ => ⟨⟨x3, x3, nI_pos (by omega), nI_pos (by omega), nI_pos (by omega), ?_, ?_, fun z => absurd z (by decide), fun _ => ⟨kk, h5, fun i hi z hz => ?_⟩⟩, fun S8 e8 => ?_⟩⟩
  · rw [nI_clamp (by omega), nI_clamp (by omega), x4]; omega
  · rw [nI_clamp (by omega), nI_clamp (by omega), x4]; omega
  · rw [nI_clamp (by omega)] at hi hz
    obtain ⟨w, hw⟩ := get_ex (l := l) (k := k + i) (by omega)
    obtain rfl : w = z := Option.some.inj ((x5 _ w hw).symm.trans hz)
    exact h6 _ (List.mem_of_getElem? hw)
  have s8 : cSub S S8 (lsF S dp a) := by
    rw [e8]
    exact fun c hc => ⟨⟨hc, rfl, rfl⟩, fun hF => ⟨fun q => ⟨rfl, rfl, rfl⟩, rfl, rfl, upR_n (fun e => hF (e ▸ Or.inr ⟨hb, hbd⟩))⟩⟩
  have b8 := sub_A1 s8 x3
  have O8 : cO S8 b = va_cpy (cO S b) (cO S b) k (k + 1) (l.length - k) := by rw [e8]; exact upR_s
  refine ⟨cX_mk b8 ((sub_cn s8 x3).trans x4) (by omega) (show k < m by omega) rfl, ⟨(sub_A1 s8 hy).1, by rw [(sub_A1 s8 hy).2]; exact h5⟩, fun S9 e9 => ?_⟩
  have s9 : cSub S S9 (lsF S dp a) := sub_tr s8 (e9 ▸ sub_SO (F := lsF S dp a) (Or.inr ⟨hb, hbd⟩)) (fun _ _ z => z)
  refine ⟨sub_A1 s9 h1, fun S2 e2 => ⟨⟨hc, hs⟩, ?_⟩⟩
  have s2 : cSub S S2 (lsF S dp a) := sub_tr s9 (e2 ▸ sub_Si (F := lsF S dp a) (Or.inl rfl)) (fun _ _ z => z)
  have r2 : cr S2 385 a = cr S 385 a := hr_Si e2 (hr_SO e9 (by rw [e8]; rfl))
  have O2 : cO S2 b = upR (va_cpy (cO S b) (cO S b) k (k + 1) (l.length - k)) k (some y) := hO_Si e2 (hO_SO_e e9 O8)
  refine h S2 ⟨s2, fun z hz => Or.inl ?_⟩ ⟨sub_A1 s2 h1, (hi_Si_s e2).trans (by rw [ins_len hk]), by rw [ins_len hk]; exact hl, h4, h5, fun z hz => ?_, b, r2.trans hb, Or.inr ⟨x1, x2, sub_A1 s2 x3, (sub_cn s2 x3).trans x4, fun j z hj => ?_⟩⟩
  · unfold lsF at hz ⊢
    rw [r2] at hz; exact hz
  · rcases List.mem_append.mp hz with w | w
    · exact sub_A1 s2 (h6 z (List.mem_of_mem_take w))
    · rcases List.mem_cons.mp w with u | u
      · rw [u]; exact sub_A1 s2 hy
      · exact sub_A1 s2 (h6 z (List.mem_of_mem_drop u))
  · rw [O2]
    rcases ins_get hk hj with ⟨w1, w2⟩ | ⟨rfl, rfl⟩ | ⟨w1, w2⟩
    · rw [upR_n (by omega), pk_cpy_out (Or.inl (by omega))]; exact x5 j z w2
    · exact upR_s
    · have := get_lt w2
      rw [upR_n (by omega), pk_cpy_in (by omega) (by omega), show k + (j - (k + 1)) = j - 1 by omega]; exact x5 _ z w2
theorem q_laddAt {Q : cS → Prop} {y k mc ms : Nat} (hdp : dpO dp S) (ht : lsT S dp a kk l m) (hm : m < 5000) (hk : k ≤ l.length) (hy : cA S y kk) (hc : (if l.length = m then 1 else 0) ≤ mc) (hs : (if l.length = m then gwL m m else 0) ≤ ms) (h : ∀ T, lsEv S T dp a → lsT T dp a kk (l.take k ++ y :: l.drop k) (gwL m l.length) → Q T) : k_Jx4a65c_add_7a177 Q dp mc ms a (nI k) y S := by
  have hml := ht.2.2.1
  unfold k_Jx4a65c_add_7a177
  refine ⟨ht.1, 0, 0, by omega, by omega, ?_⟩
  unfold k_Jx4a65c_rangeCheckForAdd_d00df
  rw [ht.2.1]
  refine ⟨ht.1, pk_lt l.length k (fun z => absurd z (by omega)) (fun _ => ⟨fun _ => ⟨⟨by omega, by omega⟩, ht.1, ht.1, fun S1 e1 => ?_⟩, fun z => absurd ((nI_leI (a := 0) (by decide) (by omega)).mpr (Nat.zero_le k)) z⟩)⟩
  obtain ⟨ht1, v1⟩ := lsT_384 e1 ht
  have hdp1 : dpO dp S1 := dp_O
  have hy1 := sub_A1 v1.1 hy
  obtain ⟨h1, h2, h3, h4, h5, h6, b, hb, hx⟩ := id ht1
  have grow : l.length = m → k_Jx4a65c_grow_d5877 (fun r_13 S_13 => k_Jx4a65c_add_7a177_38 Q dp mc ms a (nI k) y (nI l.length) r_13 (0 + 0 + mc) (0 + 0 + ms) S_13) dp mc ms a S1 := by
    intro e
    rw [if_pos e] at hc hs
    rw [e] at h
    refine q_lgrow hdp1 ht1 e hm hc hs (fun T q vT tT cT nq => q_ladd38 tT cT nq ?_ hk (sub_A1 vT.1 hy1) (by omega) (by omega) (fun U vU tU => h U (lsEv_tr v1 (lsEv_tr vT vU)) tU))
    unfold gwL
    rw [if_pos rfl]
    split <;> omega
  refine ⟨h1, ?_⟩
  rintro _ rfl
  refine ⟨h1, b, hb, ?_⟩
  rw [h2]
  rcases hx with ⟨rfl, hm0⟩ | ⟨x1, x2, x3, x4, x5⟩
  · exact ⟨fun _ => w_ne l.length 0 (fun z => absurd z (by omega)) (fun _ => ⟨h1, mc, ms, by omega, by omega, grow (by omega)⟩), fun z => absurd rfl z⟩
  · refine ⟨fun z => absurd z x1, fun _ => ⟨x3, w_ne l.length m (fun z => ?_) (fun z => ⟨h1, mc, ms, by omega, by omega, grow z⟩) rfl (by rw [x4])⟩⟩
    have eg : gwL m l.length = m := if_neg z
    rw [eg] at h
    exact q_ladd38 ht1 hb x1 (by omega) hk hy1 (by omega) (by omega) (fun U vU tU => h U (lsEv_tr v1 vU) tU)
theorem q_lremove {Q : Nat → cS → Prop} {k y : Nat} (ht : lsT S dp a kk l m) (hk : l[k]? = some y) (h : ∀ T, lsEv S T dp a → lsT T dp a kk (l.eraseIdx k) m → Q y T) : k_Jx4a65c_remove_915e3 Q dp a (nI k) S := by
  obtain ⟨h1, h2, h3, h4, h5, h6, b, hb, hx⟩ := id ht
  have hl := get_lt hk
  have hel : (l.eraseIdx k).length = l.length - 1 := List.length_eraseIdx_of_lt hl
  unfold k_Jx4a65c_remove_915e3 k_J15_checkIndex_7cf53 k_J3_checkIndex_8e157
  rw [h2]
  refine ⟨h1, fun _ => w_pos k (pk_lt k l.length (fun _ => ⟨h1, b, hb, ?_⟩) (fun z => absurd z (by omega))), fun b e => nomatch e⟩
  rcases hx with hx | ⟨x1, x2, x3, x4, x5⟩
  · omega
  refine ⟨fun z => absurd z x1, fun _ => ⟨cX_mk x3 x4 (by omega) (show k < m by omega) rfl, y, by rw [nI_clamp (by omega)]; exact x5 k y hk, h1, ?_⟩⟩
  unfold k_Jx4a65c_fastRemove_b59b0
  refine ⟨fun z => absurd z x1, fun _ => ⟨h1, h1, fun S1 e1 => ?_⟩⟩
  obtain ⟨ht1, v1⟩ := lsT_384 e1 ht
  have i1 := ht1.2.1
  have s1 := v1.1
  have b1 := sub_A1 s1 x3
  have n1 := (sub_cn s1 x3).trans x4
  have hb1 : cr S1 385 a = some b := hr_Si e1 hb
  have O1 : cO S1 b = cO S b := hO_Si e1 rfl
  refine ⟨ht1.1, ?_⟩
  rw [i1, pk_sub (by omega)]
  rintro _ rfl
  have p34 : ∀ S2 : cS, cSub S S2 (lsF S dp a) → cr S2 385 a = some b → (∀ j, j < k → cO S2 b j = cO S b j) → (∀ j, k ≤ j → j < l.length - 1 → cO S2 b j = cO S b (j + 1)) → k_Jx4a65c_fastRemove_b59b0_34 (fun S_4 => Q y S_4) dp a b (nI (l.length - 1)) S2 := by
    intro S2 s2 c2 o1 o2
    unfold k_Jx4a65c_fastRemove_b59b0_34
    refine ⟨fun z => absurd z x1, fun _ => ⟨sub_A1 s2 h1, fun S4 e4 => ?_⟩⟩
    have s4 : cSub S S4 (lsF S dp a) := sub_tr s2 (e4 ▸ sub_Si (F := lsF S dp a) (Or.inl rfl)) (fun _ _ z => z)
    refine ⟨cX_mk (sub_A1 s4 x3) ((sub_cn s4 x3).trans x4) (by omega) (show l.length - 1 < m by omega) rfl, fun S5 e5 => ?_⟩
    rw [nI_clamp (by omega)] at e5
    have s5 : cSub S S5 (lsF S dp a) := sub_tr s4 (e5 ▸ sub_SO (F := lsF S dp a) (Or.inr ⟨hb, x1⟩)) (fun _ _ z => z)
    have r5 : cr S5 385 a = some b := hr_SO e5 (hr_Si e4 c2)
    have O5 : cO S5 b = upR (cO S2 b) (l.length - 1) none := hO_SO_e e5 (hO_Si e4 rfl)
    refine h S5 ⟨s5, fun z hz => Or.inl ?_⟩ ⟨sub_A1 s5 h1, (hi_SO e5 (hi_Si_s e4)).trans (by rw [hel]), by rw [hel]; omega, h4, h5, fun z hz => sub_A1 s5 (h6 z (List.mem_of_mem_eraseIdx hz)), b, r5, Or.inr ⟨x1, x2, sub_A1 s5 x3, (sub_cn s5 x3).trans x4, fun j z hj => ?_⟩⟩
    · unfold lsF at hz ⊢
      rw [r5] at hz
      rw [hb]; exact hz
    · have hjl := get_lt hj
      rw [hel] at hjl
      rw [O5, upR_n (by omega)]
      rcases era_get hj with ⟨w1, w2⟩ | ⟨w1, w2⟩
      · rw [o1 j w1]; exact x5 j z w2
      · rw [o2 j w1 hjl]; exact x5 _ z w2
  refine pk_le (l.length - 1) k (fun z => ?_) (fun z => ?_)
  · exact p34 S1 s1 hb1 (fun j _ => by rw [O1]) (fun j a b => absurd b (by omega))
  · rw [nI_add, pk_sub (by omega), nI_clamp (by omega), nI_clamp (by omega), nI_clamp (by omega)]
    refine ⟨⟨b1, b1, nI_pos (by omega), nI_pos (by omega), nI_pos (by omega), ?_, ?_, fun z => absurd z (by decide), fun _ => ⟨kk, h5, fun i hi z hz => ?_⟩⟩, fun S9 e9 => ?_⟩
    · rw [nI_clamp (by omega), nI_clamp (by omega), n1]; omega
    · rw [nI_clamp (by omega), nI_clamp (by omega), n1]; omega
    · rw [nI_clamp (by omega)] at hi hz
      rw [O1] at hz
      obtain ⟨w, hw⟩ := get_ex (l := l) (k := k + 1 + i) (by omega)
      obtain rfl : w = z := Option.some.inj ((x5 _ w hw).symm.trans hz)
      exact sub_A1 s1 (h6 _ (List.mem_of_getElem? hw))
    · have s9 : cSub S S9 (lsF S dp a) := by
        refine sub_tr s1 (G := lsF S dp a) ?_ (fun _ _ z => z)
        rw [e9]
        exact fun c hc => ⟨⟨hc, rfl, rfl⟩, fun hF => ⟨fun q => ⟨rfl, rfl, rfl⟩, rfl, rfl, upR_n (fun e => hF (e ▸ Or.inr ⟨hb, x1⟩))⟩⟩
      have O9 : cO S9 b = va_cpy (cO S b) (cO S b) (k + 1) k (l.length - 1 - k) := by rw [e9, ← O1]; exact upR_s
      refine p34 S9 s9 (by rw [e9]; exact hb1) (fun j hj => ?_) (fun j j1 j2 => ?_)
      · rw [O9, pk_cpy_out (Or.inl hj)]
      · rw [O9, pk_cpy_in j1 (by omega), show k + 1 + (j - k) = j + 1 by omega]
theorem q_lclear {Q : cS → Prop} (ht : lsT S dp a kk l m) (h : ∀ T, lsEv S T dp a → lsT T dp a kk [] m → Q T) : k_Jx4a65c_clear_da8c8 Q dp a S := by
  unfold k_Jx4a65c_clear_da8c8
  refine ⟨ht.1, ht.1, fun S1 e1 => ?_⟩
  obtain ⟨ht1, v1⟩ := lsT_384 e1 ht
  obtain ⟨h1, h2, h3, h4, h5, h6, b, hb, hx⟩ := id ht1
  have fin : ∀ T, cSub S1 T (lsF S1 dp a) → ci T 386 a = nI 0 → cr T 385 a = some b → Q T := by
    intro T s i r
    refine h T (lsEv_tr v1 ⟨s, fun z hz => Or.inl ?_⟩) ⟨sub_A1 s h1, i, Nat.zero_le _, h4, h5, fun y hy => absurd hy (List.not_mem_nil), b, r, ?_⟩
    · unfold lsF at hz ⊢
      rw [r] at hz
      rw [hb]; exact hz
    · rcases hx with hx | ⟨x1, x2, x3, x4, x5⟩
      · exact Or.inl hx
      · exact Or.inr ⟨x1, x2, sub_A1 s x3, (sub_cn s x3).trans x4, fun k y hk => absurd (get_lt hk) (Nat.not_lt_zero k)⟩
  refine ⟨h1, b, hb, ?_⟩
  rw [h2]
  rcases hx with ⟨rfl, hm0⟩ | ⟨x1, x2, x3, x4, x5⟩
  · refine ⟨fun _ => ⟨h1, ?_⟩, fun z => absurd rfl z⟩
    rintro _ rfl
    refine ⟨h1, fun S4 e4 => ?_⟩
    unfold k_Jx4a65c_clear_da8c8_27L
    intro P hP
    refine hP _ ?_
    show k_Jx4a65c_clear_da8c8_27 Q b _ b (nI l.length) (nI 0) S4
    unfold k_Jx4a65c_clear_da8c8_27
    exact ⟨fun _ => pk_le l.length 0 (fun _ => fin S4 (e4 ▸ sub_Si (Or.inl rfl)) (hi_Si_s e4) (hr_Si e4 hb)) (fun z => absurd z (by omega)), fun z => absurd rfl z⟩
  · refine ⟨fun z => absurd z x1, fun _ => ⟨h1, ?_⟩⟩
    rintro _ rfl
    refine ⟨h1, fun S4 e4 => ?_⟩
    have s4 : cSub S1 S4 (lsF S1 dp a) := e4 ▸ sub_Si (Or.inl rfl)
    unfold k_Jx4a65c_clear_da8c8_27L
    refine lfp_cnt l.length (fun i y => ∃ S', cSub S1 S' (lsF S1 dp a) ∧ ci S' 386 a = nI 0 ∧ cr S' 385 a = some b ∧ y = (b, nI l.length, nI i, S')) ?_ ⟨S4, s4, hi_Si_s e4, hr_Si e4 hb, rfl⟩
    rintro P i _ hi ⟨S', s', i', r', rfl⟩ ih
    show k_Jx4a65c_clear_da8c8_27 Q dp _ b (nI l.length) (nI i) S'
    unfold k_Jx4a65c_clear_da8c8_27
    refine ⟨fun z => absurd z x1, fun _ => pk_le l.length i (fun _ => fin S' s' i' r') (fun z => ⟨cX_mk (sub_A1 s' x3) ((sub_cn s' x3).trans x4) (by omega) (show i < m by omega) rfl, fun S5 e5 => ?_⟩)⟩
    rintro _ rfl
    rw [nI_add]
    exact ih _ z ⟨S5, sub_tr s' (e5 ▸ sub_SO (F := lsF S1 dp a) (Or.inr ⟨hb, x1⟩)) (fun _ _ z => z), hi_SO e5 i', hr_SO e5 r', rfl⟩
theorem q_linit {Q : cS → Prop} {kk : Nat} (ha : cA S a 12) (hdp : dpO dp S) (hkk : kOb kk) (h : ∀ T, cSub S T (fun z => z = a) → (ci S 386 a = nI 0 → lsT T dp a kk [] 0) → Q T) : k_Jx4a65c_init_da8c8 Q dp a S := by
  unfold k_Jx4a65c_init_da8c8 k_Jxc12de_init_da8c8 k_Jxa1e45_init_da8c8
  refine ⟨ha, fun S1 e1 => ?_⟩
  have s1 : cSub S S1 (fun z => z = a) := e1 ▸ sub_Si rfl
  refine ⟨sub_A1 s1 ha, fun S2 e2 => ?_⟩
  have s2 : cSub S S2 (fun z => z = a) := sub_tr s1 (e2 ▸ sub_Sr (F := fun z => z = a) rfl) (fun _ _ z => z)
  exact h S2 s2 (fun hi => ⟨sub_A1 s2 ha, hi_Sr e2 (hi_Si_q e1 (by decide) hi), Nat.le_refl _, by omega, hkk, fun y hy => absurd hy (List.not_mem_nil), dp, hr_Sr_s e2, Or.inl ⟨rfl, rfl⟩⟩)
end LI
