/-! the class: a text is made to tokens -/
theorem gwN_le {m n : Nat} (hm : m ≤ 444) : ∀ {k : Nat}, n + k ≤ 221 → gwN m n k ≤ 444
  | 0, _ => hm
  | k + 1, h => by
    have := gwN_le (n := n) hm (k := k) (by omega)
    show gwT (gwN m n k) (n + k) ≤ 444
    unfold gwT
    split <;> omega
theorem tkL_le {F G : Nat → Int64} {yn : Nat} {stp : Int64 → Bool} {st : Nat → Int64} {i : Nat} : ∀ {n : Nat}, i ≤ n → (tkL F G yn stp st i).length ≤ (tkL F G yn stp st n).length
  | 0, h => by
    obtain rfl : i = 0 := by omega
    exact Nat.le_refl _
  | n + 1, h => by
    rcases Nat.lt_or_ge n i with z | z
    · obtain rfl : i = n + 1 := by omega
      exact Nat.le_refl _
    · have := tkL_le (F := F) (G := G) (yn := yn) (stp := stp) (st := st) z
      show _ ≤ (tkL F G yn stp st n ++ _).length
      rw [List.length_append]; omega
/-- the language's own place for words that are read -/
def lw (S : cS) (L z : Nat) : Prop := z = L ∨ cr S 97 L = some z
section TZ
variable {S : cS} {dp : Nat}
theorem q_wordAt {Q : Int64 → cS → Prop} {L n k w : Nat} (h1 : cA S L 3) (h2 : ci S 98 L = nI n) (hn : n ≤ 20) (w1 : cr S 97 L = some w) (w2 : cA S w 15) (w3 : cn S w = 20) (hk : k < n) (h : Q (cJ S w k) S) : k_X3_wordAt Q dp L (nI k) S := by
  unfold k_X3_wordAt
  rw [h2]
  refine w_pos k ⟨h1, (w_nle n k (fun _ => ?_) (fun z => absurd z (by omega))).symm⟩
  refine ⟨h1, w, w1, w2, pk_lt k 20 (fun _ => ⟨h1, w, w1, cX_mk w2 w3 (by decide) (show k < 20 by omega) rfl, ?_⟩) (fun z => absurd z (by omega)) rfl (by rw [w3])⟩
  rw [nI_clamp (by omega)]; exact h
set_option maxHeartbeats 1000000 in
theorem q_tokLoop {Q : cS → Prop} {L t m ks yn n mc ms : Nat} {A F G : Nat → Int64} {W : Nat → Nat} {syn : Bool} (hg : lGd S L ks A yn F G) (h98 : ci S 98 L = nI n) (hn : n ≤ 20) (hW : ∀ w, cr S 97 L = some w → ∀ k, k < n → cJ S w k = lN (W k)) (hW2 : ∀ k, W k < 2 ^ 63) (ht : tTk S t m []) (hd : ∀ z, lF S L z → ¬ tF S t z) (hc : gcN m 0 (tkL F G (if syn = true then yn else 0) (fun c => anyB (fun j => A j == c) ks) (fun k => lN (stW (W k))) n).length ≤ mc) (hs : gsN m 0 (tkL F G (if syn = true then yn else 0) (fun c => anyB (fun j => A j == c) ks) (fun k => lN (stW (W k))) n).length ≤ ms) (h : ∀ T m', tEv S T t → tTk T t m' (tkL F G (if syn = true then yn else 0) (fun c => anyB (fun j => A j == c) ks) (fun k => lN (stW (W k))) n) → Q T) : k_X3_tokenise_12L Q dp mc ms L t (bI syn) (nI 0) 0 0 S := by
  have hy10 : yn ≤ 10 := hg.2.2.1.2
  generalize hY : (if syn = true then yn else 0) = Y at hc hs h
  have hY10 : Y ≤ 10 := by rw [← hY]; split <;> omega
  generalize hstp : (fun c => anyB (fun j => A j == c) ks) = stp at hc hs h
  generalize hst : (fun k => lN (stW (W k))) = st at hc hs h
  unfold k_X3_tokenise_12L
  refine lfp_cnt n (fun k y => ∃ S', tEv S S' t ∧ tTk S' t (gwN m 0 (tkL F G Y stp st k).length) (tkL F G Y stp st k) ∧ y = (L, t, bI syn, nI k, gcN m 0 (tkL F G Y stp st k).length, gsN m 0 (tkL F G Y stp st k).length, S')) ?_ ⟨S, tEv_rf, ht, rfl⟩
  rintro P k _ hk ⟨S', hv, hkk, rfl⟩ ih
  show k_X3_tokenise_12 Q dp mc ms _ L t (bI syn) (nI k) (gcN m 0 (tkL F G Y stp st k).length) (gsN m 0 (tkL F G Y stp st k).length) S'
  have hg' := lGd_sub hv.1 hg hd
  have fL : ¬ tF S t L := hd L (Or.inl rfl)
  obtain ⟨h1, h2, h3, w, a, b, c, ⟨w1, w2, w3⟩, -⟩ := id hg'
  have w1S : cr S 97 L = some w := by rw [← sub_cr hv.1 hg.1 fL]; exact w1
  have fw : ¬ tF S t w := hd w (Or.inr (Or.inl w1S))
  have w98 : ci S' 98 L = nI n := (sub_ci hv.1 hg.1 fL).trans h98
  have bnd : ∀ j, j ≤ n → gcN m 0 (tkL F G Y stp st j).length ≤ mc ∧ gsN m 0 (tkL F G Y stp st j).length ≤ ms := by
    intro j hj
    have hle := tkL_le (F := F) (G := G) (yn := Y) (stp := stp) (st := st) hj
    obtain ⟨r, hr⟩ : ∃ r, (tkL F G Y stp st n).length = (tkL F G Y stp st j).length + r := ⟨_, (Nat.add_sub_cancel' hle).symm⟩
    rw [hr, gcN_add] at hc
    rw [hr, gsN_add] at hs
    exact ⟨by omega, by omega⟩
  have go : ∀ (T : cS) (cd dd : Nat), k < n → tEv S T t → tTk T t (gwN m 0 (tkL F G Y stp st (k + 1)).length) (tkL F G Y stp st (k + 1)) → cd = gcN m 0 (tkL F G Y stp st (k + 1)).length → dd = gsN m 0 (tkL F G Y stp st (k + 1)).length → k_X3_tokenise_58 Q dp mc ms (fun b0 b1 b2 b3 b4 b5 S => P (b0, b1, b2, b3, b4, b5, S)) L t (bI syn) (nI k) cd dd T := by
    rintro T _ _ hlt hvT hkT rfl rfl
    unfold k_X3_tokenise_58
    rintro _ rfl
    rw [nI_add]
    exact ih _ hlt ⟨T, hvT, hkT, rfl⟩
  unfold k_X3_tokenise_12
  rw [w98]
  refine ⟨h1, (w_nle n k (fun hlt => ?_) (fun z => ?_)).symm⟩
  · have len1 := tkL_len (F := F) (S := G) (yn := Y) (stp := stp) (st := st) k
    have len2 : (tkL F G Y stp st k).length + 11 ≤ 220 := by
      have : (Y + 1) * k ≤ 11 * k := Nat.mul_le_mul_right _ (by omega)
      omega
    have ewk : cJ S' w k = lN (W k) := by
      have hwA : cA S w 15 := by
        obtain ⟨-, -, -, w', -, -, -, ⟨q1, q2, -⟩, -⟩ := hg
        have : w' = w := Option.some.inj (q1.symm.trans w1S)
        exact this ▸ q2
      rw [sub_cJ hv.1 hwA fw]; exact hW w w1S k hlt
    refine ⟨h1, bnd k hk, q_wordAt h1 w98 hn w1 w2 w3 hlt ?_⟩
    rw [ewk]
    refine ⟨bnd k hk, q_stemOf (hW2 k) ⟨h1, bnd k hk, q_isStop (lGd_st hg') ?_⟩⟩
    have e1 : lN (stW (W k)) = st k := congrFun hst k
    have e2 : anyB (fun j => A j == lN (stW (W k))) ks = stp (st k) := by rw [e1, ← hstp]
    rw [e2, e1]
    refine w_bn _ (fun s1 => ?_) (fun s1 => ?_)
    · have e : tkL F G Y stp st (k + 1) = tkL F G Y stp st k := by rw [tkL, if_pos s1, List.append_nil]
      exact go S' _ _ hlt hv (by rw [e]; exact hkk) (by rw [e]) (by rw [e])
    · have e : tkL F G Y stp st (k + 1) = tkL F G Y stp st k ++ (st k, k) :: syL F G (st k) k Y := by rw [tkL, if_neg (by rw [s1]; decide)]
      have el : (tkL F G Y stp st (k + 1)).length = (tkL F G Y stp st k).length + 1 + (syL F G (st k) k Y).length := by rw [e, List.length_append, List.length_cons]; omega
      obtain ⟨B1, B2⟩ := bnd (k + 1) hlt
      rw [el, gcN_add] at B1
      rw [el, gsN_add] at B2
      refine ⟨hkk.1, (if 0 + (tkL F G Y stp st k).length = gwN m 0 (tkL F G Y stp st k).length then 2 else 0), (if 0 + (tkL F G Y stp st k).length = gwN m 0 (tkL F G Y stp st k).length then 4 * gwN m 0 (tkL F G Y stp st k).length + 8 else 0), Nat.le_trans (Nat.le_add_right _ _) B1, Nat.le_trans (Nat.le_add_right _ _) B2, ?_⟩
      refine q_putToken1 hkk (n := 0 + (tkL F G Y stp st k).length) (Nat.zero_add _).symm (by omega) (by omega) (Nat.le_refl _) (Nat.le_refl _) (fun T hvT hkT => ?_)
      have hvT' := tEv_tr hv hvT
      have hgT := lGd_sub hvT'.1 hg hd
      refine w_b0 syn (fun s2 => ?_) (fun s2 => ?_)
      · have hY0 : Y = 0 := by rw [← hY, s2]; rfl
        have e3 : syL F G (st k) k Y = [] := by rw [hY0]; rfl
        have el3 : (tkL F G Y stp st (k + 1)).length = (tkL F G Y stp st k).length + 1 := by rw [el, e3]; rfl
        refine go T _ _ hlt hvT' ?_ (by rw [el3]; rfl) (by rw [el3]; rfl)
        rw [el3, e, e3]; exact hkT
      · have hY1 : Y = yn := by rw [← hY, s2]; rfl
        refine ⟨hgT.1, gcN (gwN m 0 ((tkL F G Y stp st k).length + 1)) (0 + ((tkL F G Y stp st k).length + 1)) (syL F G (st k) k Y).length, gsN (gwN m 0 ((tkL F G Y stp st k).length + 1)) (0 + ((tkL F G Y stp st k).length + 1)) (syL F G (st k) k Y).length, B1, B2, ?_⟩
        refine q_putSynonyms hgT hkT (n := 0 + ((tkL F G Y stp st k).length + 1)) (by rw [List.length_append, Nat.zero_add]; rfl) ?_ (fun x hx => tkL_pl hx) (by omega) (by omega) (by rw [hY1]; exact Nat.le_refl _) (by rw [hY1]; exact Nat.le_refl _) (fun U hvU hkU => ?_)
        · intro z hz hz2
          have hz' : lF S L z := by
            have hr : ∀ q, cr T q L = cr S q L := fun q => sub_cr hvT'.1 hg.1 fL
            unfold lF at hz ⊢
            simp only [hr] at hz
            exact hz
          rcases hvT'.2.1 z hz2 with q | q
          · exact hd z hz' q
          · obtain ⟨-, -, -, w', a', b', c', ⟨q1, q2, -⟩, ⟨a1, a2, -⟩, ⟨b1, b2, -⟩, ⟨c1, c2, -⟩, -⟩ := id hg
            rcases hz' with y | y | y | y | y
            · exact q (y ▸ hg.1.1)
            · exact q (Option.some.inj (q1.symm.trans y) ▸ q2.1)
            · exact q (Option.some.inj (a1.symm.trans y) ▸ a2.1)
            · exact q (Option.some.inj (b1.symm.trans y) ▸ b2.1)
            · exact q (Option.some.inj (c1.symm.trans y) ▸ c2.1)
        · rw [← hY1] at hkU
          refine go U _ _ hlt (tEv_tr hvT' hvU) ?_ (by rw [el, gcN_add]; rfl) (by rw [el, gsN_add]; rfl)
          rw [el, gwN_add, e]; exact hkU
  · obtain rfl : k = n := by omega
    exact ⟨bnd k hk, h S' _ hv hkk⟩
set_option maxHeartbeats 1000000 in
theorem q_tokenise {Q : cS → Prop} {L t n m ks yn mc ms : Nat} {P : Nat → Nat} {l : List (Int64 × Nat)} {A F G : Nat → Int64} {syn : Bool} (hg : lGd S L ks A yn F G) (hsg : tSg S t n P) (ht : tTk S t m l) (hd : ∀ z, lF S L z → ¬ tF S t z) (hc : 222 ≤ mc) (hs : 1776 ≤ ms) (h : ∀ T m', cSub S T (fun z => lw S L z ∨ tF S t z) → lGd T L ks A yn F G → (∀ q, q ≠ 98 → ci T q L = ci S q L) → (∀ q, cr T q L = cr S q L) → tTk T t m' (tkL F G (if syn = true then yn else 0) (fun c => anyB (fun j => A j == c) ks) (fun k => lN (stW (wdW P n k))) (wdC P n)) → (∀ z, tF T t z → tF S t z ∨ z ∉ cL S) → (∀ q, q ≠ 292 → ci T q t = ci S q t) → (∀ q, q ≠ 290 → q ≠ 291 → cr T q t = cr S q t) → Q T) : k_X3_tokenise Q dp mc ms L t (bI syn) S := by
  obtain ⟨h1, h2, h3, w, a, b, c, ⟨w1, w2, w3⟩, ⟨a1, a2, a3, a4⟩, ⟨b1, b2, b3, b4⟩, ⟨c1, c2, c3, c4⟩, wa, wb, wc, hD⟩ := id hg
  have hLt : L ≠ t := cA_ne h1 ht.1 (by decide)
  unfold k_X3_tokenise
  refine ⟨h1, ⟨by omega, by omega⟩, q_readWordsOf hsg ⟨h1, w1, w2, w3⟩ (fun r hr => ?_)⟩
  have s1 : cSub S (cRJ (cSi S 98 L (nI (wdC P n))) w r) (fun z => lw S L z ∨ tF S t z) := sub_tr (sub_Si (Or.inl (Or.inl rfl))) (sub_RJ (F := fun z => lw S L z ∨ tF S t z) (Or.inl (Or.inr w1))) (fun _ _ z => z)
  refine ⟨sub_A1 s1 ht.1, ?_⟩
  intro S2 e2
  have s2 : cSub S S2 (fun z => lw S L z ∨ tF S t z) := sub_tr s1 (e2 ▸ sub_Si (F := fun z => lw S L z ∨ tF S t z) (Or.inr (Or.inl rfl))) (fun _ _ z => z)
  have hr2 : ∀ q a, cr S2 q a = cr S q a := fun q a => by rw [e2]; rfl
  have hi2 : ∀ q, q ≠ 98 → ci S2 q L = ci S q L := fun q hq => by
    rw [e2]; exact (cSi_na hLt).trans (cSi_nq (S := S) hq)
  have hJ2 : ∀ a, a ≠ w → cJ S2 a = cJ S a := fun a ha => by
    rw [e2]; exact sR_n ha
  have hJw : cJ S2 w = r := by rw [e2]; exact sR_s
  have it2 : ∀ q, q ≠ 292 → ci S2 q t = ci S q t := fun q hq => by
    rw [e2]; exact (cSi_nq hq).trans (cSi_na (S := S) (Ne.symm hLt))
  have h98 : ci S2 98 L = nI (wdC P n) := by
    rw [e2]; exact (cSi_na hLt).trans (show ci (cSi S 98 L (nI (wdC P n))) 98 L = nI (wdC P n) from cSi_at)
  have hg2 : lGd S2 L ks A yn F G := ⟨sub_A1 s2 h1, ⟨(hi2 _ (by decide)).trans h2.1, h2.2⟩, ⟨(hi2 _ (by decide)).trans h3.1, h3.2⟩, w, a, b, c, ⟨(hr2 _ _).trans w1, sub_A1 s2 w2, (sub_cn s2 w2).trans w3⟩, ⟨(hr2 _ _).trans a1, sub_A1 s2 a2, (sub_cn s2 a2).trans a3, (hJ2 a (Ne.symm wa)).trans a4⟩, ⟨(hr2 _ _).trans b1, sub_A1 s2 b2, (sub_cn s2 b2).trans b3, (hJ2 b (Ne.symm wb)).trans b4⟩, ⟨(hr2 _ _).trans c1, sub_A1 s2 c2, (sub_cn s2 c2).trans c3, (hJ2 c (Ne.symm wc)).trans c4⟩, wa, wb, wc, hD⟩
  obtain ⟨t1, t2, t3, t4, tb, td, tb1, tb2, tb3, td1, td2, td3, hx⟩ := id ht
  have ht2 : tTk S2 t m [] := ⟨sub_A1 s2 t1, by rw [e2]; exact cSi_at, Nat.zero_le _, t4, tb, td, (hr2 _ _).trans tb1, sub_A1 s2 tb2, (sub_cn s2 tb2).trans tb3, (hr2 _ _).trans td1, sub_A1 s2 td2, (sub_cn s2 td2).trans td3, fun k x hk => absurd (get_lt hk) (Nat.not_lt_zero k)⟩
  have eF : ∀ z, tF S2 t z ↔ tF S t z := by intro z; unfold tF; simp only [hr2]
  have hd2 : ∀ z, lF S2 L z → ¬ tF S2 t z := by
    intro z; rw [eF]; unfold lF; simp only [hr2]; exact hd z
  have hn20 : wdC P n ≤ 20 := by have := wdC_le P n; have := hsg.2.1; omega
  have hY : (if syn = true then yn else 0) ≤ 10 := by split <;> omega
  have len : ∀ X : List (Int64 × Nat), X.length ≤ ((if syn = true then yn else 0) + 1) * wdC P n → gcN m 0 X.length ≤ 222 ∧ gsN m 0 X.length ≤ 1776 := by
    intro X hX
    have : ((if syn = true then yn else 0) + 1) * wdC P n ≤ 11 * 20 := Nat.mul_le_mul (by omega) hn20
    have q1 := gcN_le m 0 X.length
    have q2 := gsN_le m 0 X.length
    have q3 := gwN_le (n := 0) t4 (k := X.length) (by omega)
    exact ⟨by omega, by omega⟩
  obtain ⟨z1, z2⟩ := len _ (tkL_len (F := F) (S := G) (yn := if syn = true then yn else 0) (stp := fun c => anyB (fun j => A j == c) ks) (st := fun k => lN (stW (wdW P n k))) (wdC P n))
  refine q_tokLoop (W := fun k => wdW P n k) hg2 h98 hn20 ?_ (fun k => wdW_63 P n k) ht2 hd2 (Nat.le_trans z1 hc) (Nat.le_trans z2 hs) (fun T m' hv hk => ?_)
  · intro w' hw' k hk
    obtain rfl : w = w' := Option.some.inj (w1.symm.trans ((hr2 _ _).symm.trans hw'))
    rw [hJw]; exact hr k hk
  · have fL : ¬ tF S2 t L := hd2 L (Or.inl rfl)
    refine h T m' (sub_tr s2 hv.1 (fun a _ q => Or.inr ((eF a).mp q))) (lGd_sub hv.1 hg2 hd2) (fun q hq => (sub_ci hv.1 hg2.1 fL).trans (hi2 q hq)) (fun q => (sub_cr hv.1 hg2.1 fL).trans (hr2 q L)) hk (fun z hz => ?_) (fun q hq => (hv.2.2.1 q hq).trans (it2 q hq)) (fun q p1 p2 => (hv.2.2.2 q p1 p2).trans (hr2 q t))
    rcases hv.2.1 z hz with q | q
    · exact Or.inl ((eF z).mp q)
    · exact Or.inr (fun y => q (s2 z y).1.1)
end TZ
