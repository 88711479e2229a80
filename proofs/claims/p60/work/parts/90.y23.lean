/-! the class: a field's words are made of the texts -/
def bLen (x : Int64 × List (Nat × Nat)) : Nat := (putNs ([], []) (nmN 0 x.2)).1.length
def phiL (x : Int64 × List (Nat × Nat)) : Nat := (putNs ([], []) (nmN 0 x.2)).1.length + 8 * (putNs ([], []) (nmN 0 x.2)).2.length
def eLen (x : Int64 × List (Nat × Nat)) : Nat := (encN (nmN 0 x.2)).length
theorem ok_nil : okN ([], []) := ⟨Nat.zero_le _, fun x hx => absurd hx (List.not_mem_nil)⟩
theorem okP_N {l : List (Nat × Nat)} (h : okP 0 l) : okN (putNs ([], []) (nmN 0 l)) ∧ (putNs ([], []) (nmN 0 l)).1.length + 8 * (putNs ([], []) (nmN 0 l)).2.length ≤ 8 * (22 * l.length) := by
  obtain ⟨a1, a2, a3⟩ := putNs_ok ok_nil (okP_128 h)
  have := nmN_len l 0
  refine ⟨a1, ?_⟩
  simp only [List.length_nil] at a3
  omega
theorem put_snoc {l : List (Nat × Nat)} {i m : Nat} : putNs ([], []) (nmN 0 (l ++ [(i, m)])) = putNs (putNs ([], []) (nmN 0 l)) (docN i (lpP 0 l) m) := by
  rw [nmN_snoc, putNs_app]
theorem phi_snoc {l : List (Nat × Nat)} {c : Int64} {i m : Nat} (h : okP 0 l) (hi : i < 100) : phiL (c, l ++ [(i, m)]) ≤ phiL (c, l) + 176 := by
  have h1 := (okP_N h).1
  obtain ⟨a1, a2, a3⟩ := putNs_ok h1 (docN_128 (i := i) (lp := lpP 0 l) (m := m) (by omega))
  have := docN_len (i := i) (lp := lpP 0 l) (m := m)
  unfold phiL
  rw [put_snoc]
  show _ ≤ (putNs ([], []) (nmN 0 l)).1.length + 8 * (putNs ([], []) (nmN 0 l)).2.length + 176
  omega
theorem eLen_le {x : Int64 × List (Nat × Nat)} (h : okP 0 x.2) : eLen x ≤ phiL x + 4 ∧ bLen x ≤ eLen x := by
  obtain ⟨⟨h1, h2⟩, -⟩ := okP_N h
  unfold eLen phiL bLen encN finN
  rw [List.length_append]
  have hw : wid (putNs ([], []) (nmN 0 x.2)).2 ≤ 7 := widN_le.mpr (orL_lt.mpr h2)
  by_cases e : (putNs ([], []) (nmN 0 x.2)).2 = []
  · rw [e]
    show _ + 0 ≤ _ ∧ _
    omega
  · have := grp_len e
    have h7 : wid (putNs ([], []) (nmN 0 x.2)).2 * (putNs ([], []) (nmN 0 x.2)).2.length ≤ 7 * (putNs ([], []) (nmN 0 x.2)).2.length := Nat.mul_le_mul_right _ hw
    omega
/-- words of which the first k are closed -/
def wM (S : cS) (ρ : Nat → Nat) (dp wl : Nat) (ws : List Nat) (m : Nat) (wp : List (Int64 × List (Nat × Nat))) (k : Nat) : Prop := lsT S dp wl 5 ws m ∧ (∀ z, lsF S dp wl z → ρ z = 81) ∧ ws.length = wp.length ∧ (∀ (j k p : Nat), ws[j]? = some p → ws[k]? = some p → j = k) ∧ ∃ o : Nat → Nat, ∀ (j p : Nat) (x : Int64 × List (Nat × Nat)), ws[j]? = some p → wp[j]? = some x → ((j < k → pC S p x.1 (encN (nmN 0 x.2)) [] x.2.length (lpP 0 x.2)) ∧ (k ≤ j → pC S p x.1 (putNs ([], []) (nmN 0 x.2)).1 (putNs ([], []) (nmN 0 x.2)).2 x.2.length (lpP 0 x.2)) ∧ okP 0 x.2) ∧ ∀ z, pCF S p z → ρ z = 81 ∧ o z = p
/-- words with their postings, closed -/
def wD (S : cS) (ρ : Nat → Nat) (dp wl : Nat) (ws : List Nat) (m : Nat) (wp : List (Int64 × List (Nat × Nat))) : Prop := lsT S dp wl 5 ws m ∧ (∀ z, lsF S dp wl z → ρ z = 81) ∧ ws.length = wp.length ∧ ∀ (j p : Nat) (x : Int64 × List (Nat × Nat)), ws[j]? = some p → wp[j]? = some x → (pB S p (encN (nmN 0 x.2)) ∧ cw S 160 p = x.1 ∧ ci S 163 p = nI x.2.length ∧ okP 0 x.2) ∧ ∀ z, pBF S p z → ρ z = 81
section RX
variable {S T : cS} {ρ : Nat → Nat} {dp wl m : Nat} {ws : List Nat} {wp : List (Int64 × List (Nat × Nat))}
theorem wM_put {k p : Nat} {x : Int64 × List (Nat × Nat)} (hw : wM S ρ dp wl ws m wp k) (hp : ws[k]? = some p) (hx : wp[k]? = some x) (v : pCv S T p) (g : pC T p x.1 (encN (nmN 0 x.2)) [] x.2.length (lpP 0 x.2)) : wM T (rtg S id ρ 81) dp wl ws m wp (k + 1) ∧ cSub S T (fun z => ρ z = 81) := by
  obtain ⟨ht, htag, hl, hnd, o, ho⟩ := hw
  obtain ⟨⟨-, a1, a2⟩, a3⟩ := ho k p x hp hx
  have a1 := a1 (Nat.le_refl _)
  have s : cSub S T (fun z => ρ z = 81) := sub_wk v.1 (fun z _ hz => (a3 z hz).1)
  have nl : ∀ z, lsF S dp wl z → ¬ pCF S p z := by
    intro z hz2 hz
    obtain ⟨⟨q1, q2, q3, b, b1, b2, b3⟩, g2, g3, g4, g5, g6, g7, d, d1, d2, d3, d4⟩ := a1
    have kz : cK S z = 5 ∨ cK S z = 13 ∨ cK S z = 14 := by
      rcases hz with y | y | y
      · rw [y]; exact Or.inl q1.2
      · rw [← Option.some.inj (b1.symm.trans y)]; exact Or.inr (Or.inl b2.2)
      · rw [← Option.some.inj (d1.symm.trans y)]; exact Or.inr (Or.inr d2.2)
    have kl : cK S z = 12 ∨ cK S z = 17 := by
      obtain ⟨l1, -, -, -, -, -, b', hb, hx'⟩ := ht
      rcases hz2 with y | ⟨y, y2⟩
      · rw [y]; exact Or.inl l1.2
      · obtain rfl : b' = z := Option.some.inj (hb.symm.trans y)
        rcases hx' with hx' | hx'
        · exact absurd hx'.1 y2
        · exact Or.inr hx'.2.2.1.2
    omega
  have ht' := lsT_sub v.1 ht nl
  refine ⟨⟨ht', fun z hz => ?_, hl, hnd, fun z => if z ∈ cL S then o z else p, fun j q u hq hu => ?_⟩, s⟩
  · have hz' : lsF S dp wl z := by
      unfold lsF at hz ⊢
      rw [sub_cr v.1 ht.1 (nl wl (Or.inl rfl))] at hz; exact hz
    exact (rtg_o (lsF_in ht hz')).trans (htag z hz')
  · by_cases b1 : j = k
    · subst b1
      obtain rfl : p = q := Option.some.inj (hp.symm.trans hq)
      obtain rfl : x = u := Option.some.inj (hx.symm.trans hu)
      refine ⟨⟨fun _ => g, fun z => absurd z (by omega), a2⟩, fun z hz => ?_⟩
      rcases v.2 z hz with w | w
      · have hin := pCF_in (a1 (Nat.le_refl _)) w
        exact ⟨(rtg_o hin).trans (a3 z w).1, (if_pos hin).trans (a3 z w).2⟩
      · exact ⟨rtg_n w, if_neg w⟩
    · obtain ⟨⟨c1, c1', c2⟩, c3⟩ := ho j q u hq hu
      have hne : q ≠ p := fun e => b1 (hnd j k p (e ▸ hq) hp)
      have nF : ∀ z, pCF S q z → ¬ pCF S p z := fun z h1 h2 => hne ((c3 z h1).2.symm.trans (a3 z h2).2)
      have np := nF q (Or.inl rfl)
      have qA : cA S q 5 := by
        rcases Nat.lt_or_ge j k with y | y
        · exact (c1 y).1.1
        · exact (c1' y).1.1
      refine ⟨⟨fun y => pC_sub v.1 (c1 (by omega)) nF, fun y => pC_sub v.1 (c1' (by omega)) nF, c2⟩, fun z hz => ?_⟩
      have hz' : pCF S q z := by
        unfold pCF at hz ⊢
        rw [sub_cr v.1 qA np, sub_cr v.1 qA np] at hz
        exact hz
      have hin : z ∈ cL S := by
        rcases Nat.lt_or_ge j k with y | y
        · exact pCF_in (c1 y) hz'
        · exact pCF_in (c1' y) hz'
      exact ⟨(rtg_o hin).trans (c3 z hz').1, (if_pos hin).trans (c3 z hz').2⟩
theorem wC_M (hw : wC S ρ dp wl ws m wp) : wM S ρ dp wl ws m wp 0 := by
  obtain ⟨ht, htag, hl, hnd, o, ho⟩ := hw
  exact ⟨ht, htag, hl, hnd, o, fun j p x hp hx => ⟨⟨fun z => absurd z (Nat.not_lt_zero j), fun _ => (ho j p x hp hx).1.1, (ho j p x hp hx).1.2⟩, (ho j p x hp hx).2⟩⟩
theorem wM_D (hw : wM S ρ dp wl ws m wp wp.length) : wD S ρ dp wl ws m wp := by
  obtain ⟨ht, htag, hl, hnd, o, ho⟩ := hw
  refine ⟨ht, htag, hl, fun j p x hp hx => ?_⟩
  obtain ⟨⟨a1, -, a2⟩, a3⟩ := ho j p x hp hx
  have g := a1 (get_lt hx)
  exact ⟨⟨g.1, g.2.1, g.2.2.1, a2⟩, fun z hz => (a3 z (hz.elim Or.inl (fun y => Or.inr (Or.inl y)))).1⟩
theorem sumL_take_s {α : Type} {f : α → Nat} {l : List α} {k : Nat} {x : α} (h : l[k]? = some x) : sumL f (l.take (k + 1)) = sumL f (l.take k) + f x := by
  rw [List.take_succ, h, sumL_app]
  rfl
theorem sumL_drop_s {α : Type} {f : α → Nat} {l : List α} {k : Nat} {x : α} (h : l[k]? = some x) : sumL f (l.drop k) = f x + sumL f (l.drop (k + 1)) := by
  rw [List.drop_eq_getElem_cons (get_lt h), sumL]
  congr 2
  exact Option.some.inj ((List.getElem?_eq_getElem (get_lt h)).symm.trans h)
set_option maxHeartbeats 1000000 in
/-- all words are closed -/
theorem q_closeAll {Q : cS → Prop} {mc ms cd dd : Nat} (hw : wC S ρ dp wl ws m wp) (hc : cd + sumL (fun x => gB (eLen x)) wp ≤ mc + sumL (fun x => gB (bLen x)) wp) (hs : dd + sumL (fun x => sG (eLen x)) wp ≤ ms + sumL (fun x => sG (bLen x)) wp) (hc0 : cd ≤ mc) (hs0 : dd ≤ ms) (h : ∀ T ρ', cSub S T (fun z => ρ z = 81) → (∀ a, a ∈ cL S → ρ' a = ρ a) → wD T ρ' dp wl ws m wp → Q T) : k_X8_readTexts_99L Q dp mc ms wl (nI 0) cd dd S := by
  have hmm := hw.1.2.2.1
  have hm8 := hw.1.2.2.2.1
  have hl := hw.2.2.1
  have okx : ∀ {j : Nat} {x : Int64 × List (Nat × Nat)}, wp[j]? = some x → okP 0 x.2 := fun {j x} hx => by
    obtain ⟨p, hp⟩ := get_ex (l := ws) (k := j) (by have := get_lt hx; omega)
    obtain ⟨-, -, -, -, o, ho⟩ := hw
    exact (ho j p x hp hx).1.2
  have gle : ∀ {x : Int64 × List (Nat × Nat)}, okP 0 x.2 → gB (bLen x) ≤ gB (eLen x) ∧ sG (bLen x) ≤ sG (eLen x) := fun {x} hx => by
    have h1 := (eLen_le hx).2
    have := cap_mono (bLen x) (eLen x - bLen x)
    rw [show bLen x + (eLen x - bLen x) = eLen x by omega] at this
    exact this
  have drop_le : ∀ j, sumL (fun x => gB (bLen x)) (wp.drop j) ≤ sumL (fun x => gB (eLen x)) (wp.drop j) ∧ sumL (fun x => sG (bLen x)) (wp.drop j) ≤ sumL (fun x => sG (eLen x)) (wp.drop j) := fun j => by
    have : ∀ x, x ∈ wp.drop j → okP 0 x.2 := fun x hx => by
      obtain ⟨k, hk⟩ := List.getElem?_of_mem (List.mem_of_mem_drop hx)
      exact okx hk
    exact ⟨sumL_le (fun x hx => (gle (this x hx)).1), sumL_le (fun x hx => (gle (this x hx)).2)⟩
  have split : ∀ (f : Int64 × List (Nat × Nat) → Nat) (j : Nat), sumL f wp = sumL f (wp.take j) + sumL f (wp.drop j) := fun f j => by
    rw [← sumL_app, List.take_append_drop]
  unfold k_X8_readTexts_99L
  refine lfp_cnt wp.length (fun k y => ∃ S' ρ' cd' dd', cSub S S' (fun z => ρ z = 81) ∧ (∀ a, a ∈ cL S → ρ' a = ρ a) ∧ wM S' ρ' dp wl ws m wp k ∧ cd' + sumL (fun x => gB (bLen x)) (wp.take k) = cd + sumL (fun x => gB (eLen x)) (wp.take k) ∧ dd' + sumL (fun x => sG (bLen x)) (wp.take k) = dd + sumL (fun x => sG (eLen x)) (wp.take k) ∧ y = (wl, nI k, cd', dd', S')) ?_ ⟨S, ρ, cd, dd, sub_rf, fun _ _ => rfl, wC_M hw, rfl, rfl, rfl⟩
  rintro P k _ hk ⟨S', ρ', cd', dd', s, hρ, hM, c1, c2, rfl⟩ ih
  show k_X8_readTexts_99 Q dp mc ms _ wl (nI k) cd' dd' S'
  have b1 := split (fun x => gB (bLen x)) k
  have b2 := split (fun x => gB (eLen x)) k
  have b3 := split (fun x => sG (bLen x)) k
  have b4 := split (fun x => sG (eLen x)) k
  have b5 := drop_le k
  unfold k_X8_readTexts_99
  have ht := hM.1
  refine ⟨ht.1, ⟨by omega, by omega⟩, q_lsize ht ?_⟩
  refine pk_le ws.length k (fun z => ?_) (fun hlt => ?_)
  · obtain rfl : k = wp.length := by omega
    exact ⟨⟨by omega, by omega⟩, h S' ρ' s hρ (wM_D hM)⟩
  · obtain ⟨p, hp⟩ := get_ex hlt
    obtain ⟨x, hx⟩ := get_ex (l := wp) (k := k) (by omega)
    obtain ⟨-, -, -, -, o, ho⟩ := id hM
    obtain ⟨⟨-, g, hok⟩, hF⟩ := ho k p x hp hx
    have g := g (Nat.le_refl _)
    have kle := eLen_le hok
    have d1 := sumL_drop_s (f := fun x => gB (bLen x)) hx
    have d2 := sumL_drop_s (f := fun x => gB (eLen x)) hx
    have d3 := sumL_drop_s (f := fun x => sG (bLen x)) hx
    have d4 := sumL_drop_s (f := fun x => sG (eLen x)) hx
    have d5 := drop_le (k + 1)
    have t1 := sumL_take_s (f := fun x => gB (bLen x)) hx
    have t2 := sumL_take_s (f := fun x => gB (eLen x)) hx
    have t3 := sumL_take_s (f := fun x => sG (bLen x)) hx
    have t4 := sumL_take_s (f := fun x => sG (eLen x)) hx
    have gx := gle hok
    have h17 := (okP_N hok).2
    have hpl := okP_len hok (by decide)
    have he : (putNs ([], []) (nmN 0 x.2)).1.length + (grp (putNs ([], []) (nmN 0 x.2)).2).length = eLen x := by
      unfold eLen encN finN
      rw [List.length_append]
    have hphi : phiL x ≤ 17600 := by unfold phiL; omega
    have hb : (putNs ([], []) (nmN 0 x.2)).1.length = bLen x := rfl
    refine ⟨ht.1, ⟨by omega, by omega⟩, q_lget ht hp ⟨g.1.1, g.1.1, gB (eLen x) - gB (bLen x), sG (eLen x) - sG (bLen x), by omega, by omega, ?_⟩⟩
    refine q_close g (by rw [he]; omega) (by rw [he, hb]; omega) (by rw [he, hb]; omega) (fun T v gT => ?_)
    rintro _ rfl
    rw [nI_add]
    obtain ⟨w1, w2⟩ := wM_put hM hp hx v gT
    refine ih _ (by omega) ⟨T, rtg S' id ρ' 81, _, _, sub_tr s w2 (fun a ha z => (hρ a ha).symm.trans z), fun a ha => (rtg_o (s a ha).1.1).trans (hρ a ha), w1, by omega, by omega, rfl⟩
end RX
