/-! the language; a text is made to tokens -/
/-- rows grow while k tokens are put behind n; what that takes -/
def gwN (m n : Nat) : Nat → Nat
  | 0 => m
  | k + 1 => gwT (gwN m n k) (n + k)
def gcN (m n : Nat) : Nat → Nat
  | 0 => 0
  | k + 1 => gcN m n k + (if n + k = gwN m n k then 2 else 0)
def gsN (m n : Nat) : Nat → Nat
  | 0 => 0
  | k + 1 => gsN m n k + (if n + k = gwN m n k then 4 * gwN m n k + 8 else 0)
theorem gwN_add (m n a : Nat) : ∀ b, gwN m n (a + b) = gwN (gwN m n a) (n + a) b
  | 0 => rfl
  | b + 1 => by
    show gwT (gwN m n (a + b)) (n + (a + b)) = gwT _ _
    rw [gwN_add m n a b, Nat.add_assoc]
theorem gcN_add (m n a : Nat) : ∀ b, gcN m n (a + b) = gcN m n a + gcN (gwN m n a) (n + a) b
  | 0 => rfl
  | b + 1 => by
    show gcN m n (a + b) + (if n + (a + b) = gwN m n (a + b) then 2 else 0) = gcN m n a + (gcN (gwN m n a) (n + a) b + (if n + a + b = gwN (gwN m n a) (n + a) b then 2 else 0))
    rw [gcN_add m n a b, gwN_add, Nat.add_assoc, Nat.add_assoc]
theorem gsN_add (m n a : Nat) : ∀ b, gsN m n (a + b) = gsN m n a + gsN (gwN m n a) (n + a) b
  | 0 => rfl
  | b + 1 => by
    show gsN m n (a + b) + (if n + (a + b) = gwN m n (a + b) then 4 * gwN m n (a + b) + 8 else 0) = gsN m n a + (gsN (gwN m n a) (n + a) b + (if n + a + b = gwN (gwN m n a) (n + a) b then 4 * gwN (gwN m n a) (n + a) b + 8 else 0))
    rw [gsN_add m n a b, gwN_add, Nat.add_assoc, Nat.add_assoc]
theorem gcN_le (m n : Nat) : ∀ k, 2 * gcN m n k + m ≤ gwN m n k
  | 0 => by show 2 * 0 + m ≤ m; omega
  | k + 1 => by
    have := gcN_le m n k
    show 2 * (gcN m n k + (if n + k = gwN m n k then 2 else 0)) + m ≤ gwT (gwN m n k) (n + k)
    unfold gwT
    split <;> omega
theorem gsN_le (m n : Nat) : ∀ k, gsN m n k + 4 * m ≤ 4 * gwN m n k
  | 0 => by show 0 + 4 * m ≤ 4 * m; omega
  | k + 1 => by
    have := gsN_le m n k
    show gsN m n k + (if n + k = gwN m n k then 4 * gwN m n k + 8 else 0) + 4 * m ≤ 4 * gwT (gwN m n k) (n + k)
    unfold gwT
    split <;> omega
theorem syL_le {F S : Nat → Int64} {s : Int64} {p i : Nat} : ∀ {n : Nat}, i ≤ n → (syL F S s p i).length ≤ (syL F S s p n).length
  | 0, h => by
    obtain rfl : i = 0 := by omega
    exact Nat.le_refl _
  | n + 1, h => by
    rcases Nat.lt_or_ge n i with z | z
    · obtain rfl : i = n + 1 := by omega
      exact Nat.le_refl _
    · have := syL_le (F := F) (S := S) (s := s) (p := p) z
      show _ ≤ (syL F S s p n ++ _).length
      rw [List.length_append]; omega
section TO
variable {S T : cS} {dp : Nat}
theorem q_putToken1 {Q : cS → Prop} {t m p mc ms n : Nat} {l : List (Int64 × Nat)} {c : Int64} (ht : tTk S t m l) (hn : l.length = n) (hl : n < 221) (hp : p < 20) (hc : (if n = m then 2 else 0) ≤ mc) (hs : (if n = m then 4 * m + 8 else 0) ≤ ms) (h : ∀ T, tEv S T t → tTk T t (gwT m n) (l ++ [(c, p)]) → Q T) : k_X9_putToken Q dp mc ms t c (nI p) S := by
  subst hn
  obtain ⟨h1, h2, h3, h4, b, d, b1, b2, b3, d1, d2, d3, hx⟩ := id ht
  unfold k_X9_putToken
  rw [h2]
  unfold gwT at h
  refine ⟨h1, h1, b, b1, b2, (w_nle m l.length (fun z => ?_) (fun z => ?_) (by rw [b3]) rfl).symm⟩
  · rw [if_neg (by omega)] at h
    exact ⟨h1, h1, d, d1, d2, pk_lt l.length m (fun _ => q_put62 ht z hp (by omega) (by omega) h) (fun y => absurd y (by omega)) rfl (by rw [d3])⟩
  · have e : l.length = m := by omega
    rw [if_pos e] at h hc hs
    exact q_put24 ht e (by omega) hp (by omega) (by omega) h
/-- the language: its stop words, its pairs, its rows -/
def lGd (S : cS) (L ks : Nat) (A : Nat → Int64) (yn : Nat) (F G : Nat → Int64) : Prop := cA S L 3 ∧ (ci S 100 L = nI ks ∧ ks ≤ 10) ∧ (ci S 103 L = nI yn ∧ yn ≤ 10) ∧ ∃ w a b c, (cr S 97 L = some w ∧ cA S w 15 ∧ cn S w = 20) ∧ (cr S 99 L = some a ∧ cA S a 15 ∧ cn S a = 10 ∧ cJ S a = A) ∧ (cr S 101 L = some b ∧ cA S b 15 ∧ cn S b = 10 ∧ cJ S b = F) ∧ (cr S 102 L = some c ∧ cA S c 15 ∧ cn S c = 10 ∧ cJ S c = G) ∧ w ≠ a ∧ w ≠ b ∧ w ≠ c ∧ a ≠ b ∧ a ≠ c ∧ b ≠ c
/-- the cells of the language -/
def lF (S : cS) (L z : Nat) : Prop := z = L ∨ cr S 97 L = some z ∨ cr S 99 L = some z ∨ cr S 101 L = some z ∨ cr S 102 L = some z
theorem lGd_sub {L ks yn : Nat} {A F G : Nat → Int64} {H : Nat → Prop} (h : cSub S T H) (hg : lGd S L ks A yn F G) (hF : ∀ z, lF S L z → ¬ H z) : lGd T L ks A yn F G := by
  obtain ⟨h1, h2, h3, w, a, b, c, ⟨w1, w2, w3⟩, ⟨a1, a2, a3, a4⟩, ⟨b1, b2, b3, b4⟩, ⟨c1, c2, c3, c4⟩, hd⟩ := hg
  have fL := hF L (Or.inl rfl)
  have fa := hF a (Or.inr (Or.inr (Or.inl a1)))
  have fb := hF b (Or.inr (Or.inr (Or.inr (Or.inl b1))))
  have fc := hF c (Or.inr (Or.inr (Or.inr (Or.inr c1))))
  have r : ∀ q, cr T q L = cr S q L := fun q => sub_cr h h1 fL
  exact ⟨sub_A1 h h1, ⟨(sub_ci h h1 fL).trans h2.1, h2.2⟩, ⟨(sub_ci h h1 fL).trans h3.1, h3.2⟩, w, a, b, c, ⟨(r _).trans w1, sub_A1 h w2, (sub_cn h w2).trans w3⟩, ⟨(r _).trans a1, sub_A1 h a2, (sub_cn h a2).trans a3, (sub_cJ h a2 fa).trans a4⟩, ⟨(r _).trans b1, sub_A1 h b2, (sub_cn h b2).trans b3, (sub_cJ h b2 fb).trans b4⟩, ⟨(r _).trans c1, sub_A1 h c2, (sub_cn h c2).trans c3, (sub_cJ h c2 fc).trans c4⟩, hd⟩
theorem lGd_st {L ks yn : Nat} {A F G : Nat → Int64} (hg : lGd S L ks A yn F G) : lSt S L ks A := by
  obtain ⟨h1, h2, h3, w, a, b, c, w1, a1, b1, c1, hd⟩ := hg
  exact ⟨h1, h2.1, h2.2, a, a1⟩
set_option maxHeartbeats 1000000 in
theorem q_putSynonyms {Q : cS → Prop} {L t m p mc ms ks yn n : Nat} {l : List (Int64 × Nat)} {A F G : Nat → Int64} {s : Int64} (hg : lGd S L ks A yn F G) (ht : tTk S t m (l ++ [(s, p)])) (hn : (l ++ [(s, p)]).length = n) (hd : ∀ z, lF S L z → ¬ tF S t z) (hl : ∀ x, x ∈ l → x.2 < p) (hN : n + yn < 221) (hp : p < 20) (hc : gcN m n (syL F G s p yn).length ≤ mc) (hs : gsN m n (syL F G s p yn).length ≤ ms) (h : ∀ T, tEv S T t → tTk T t (gwN m n (syL F G s p yn).length) (l ++ (s, p) :: syL F G s p yn) → Q T) : k_X3_putSynonyms Q dp mc ms L t s (nI p) S := by
  unfold k_X3_putSynonyms k_X3_putSynonyms_3L
  refine lfp_cnt yn (fun i y => ∃ S', tEv S S' t ∧ tTk S' t (gwN m n (syL F G s p i).length) (l ++ (s, p) :: syL F G s p i) ∧ gcN m n (syL F G s p i).length ≤ mc ∧ gsN m n (syL F G s p i).length ≤ ms ∧ y = (L, t, s, nI p, nI i, gcN m n (syL F G s p i).length, gsN m n (syL F G s p i).length, S')) ?_ ⟨S, tEv_rf, ht, Nat.zero_le _, Nat.zero_le _, rfl⟩
  rintro P i _ hi ⟨S', hv, hk, bc, bs, rfl⟩ ih
  show k_X3_putSynonyms_3 Q dp mc ms _ L t s (nI p) (nI i) (gcN m n (syL F G s p i).length) (gsN m n (syL F G s p i).length) S'
  obtain ⟨h1, h2, h3, w, a, b, c, w1, a1, ⟨b1, b2, b3, b4⟩, ⟨c1, c2, c3, c4⟩, hD⟩ := lGd_sub hv.1 hg hd
  have go : ∀ (T : cS) (cd dd : Nat), i < yn → tEv S T t → tTk T t (gwN m n (syL F G s p (i + 1)).length) (l ++ (s, p) :: syL F G s p (i + 1)) → cd = gcN m n (syL F G s p (i + 1)).length → dd = gsN m n (syL F G s p (i + 1)).length → cd ≤ mc → dd ≤ ms → k_X3_putSynonyms_76 Q dp mc ms (fun b0 b1 b2 b3 b4 b5 b6 S => P (b0, b1, b2, b3, b4, b5, b6, S)) L t s (nI p) (nI i) cd dd T := by
    rintro T _ _ hlt hvT hkT rfl rfl hc1 hs1
    unfold k_X3_putSynonyms_76
    rintro _ rfl
    rw [nI_add]
    exact ih _ hlt ⟨T, hvT, hkT, hc1, hs1, rfl⟩
  unfold k_X3_putSynonyms_3
  rw [h3.1]
  refine ⟨h1, (w_nle yn i (fun hlt => ?_) (fun z => ?_)).symm⟩
  · refine ⟨h1, b, b1, b2, (w_nle 10 i (fun _ => ?_) (fun z => absurd z (by omega)) (by rw [b3]) rfl).symm⟩
    refine ⟨h1, c, c1, c2, (w_nle 10 i (fun _ => ?_) (fun z => absurd z (by omega)) (by rw [c3]) rfl).symm⟩
    refine ⟨h1, b, b1, cX_mk b2 b3 (by decide) (show i < 10 by omega) rfl, ?_⟩
    rw [nI_clamp (by omega), b4]
    have no : gvB F G i s = false → syL F G s p (i + 1) = syL F G s p i := by
      intro g
      show _ ++ (if gvB F G i s = true then _ else []) = _
      rw [if_neg (by rw [g]; decide), List.append_nil]
    have yes : gvB F G i s = true → syL F G s p (i + 1) = syL F G s p i ++ [(G i, p)] := by
      intro g
      show _ ++ (if gvB F G i s = true then _ else []) = _
      rw [if_pos g]
    refine w_l (fun e => ?_) (fun e => ⟨h1, c, c1, cX_mk c2 c3 (by decide) (show i < 10 by omega) rfl, hk.1, ⟨bc, bs⟩, ?_⟩)
    · have := no (Bool.eq_false_iff.mpr (fun z => e (gv_iff.mp z).1))
      exact go S' _ _ hlt hv (by rw [this]; exact hk) (by rw [this]) (by rw [this]) bc bs
    · rw [c4]
      refine q_placesOf hk ?_
      have hlt32 : pmk (G i) (l ++ (s, p) :: syL F G s p i) < 2 ^ 20 := pmk_lt (tTk_pl hk)
      refine w_bn _ (fun c5 => ?_) (fun c5 => ?_) (nI_bit (by omega) (by omega))
      · have g := Bool.eq_false_iff.mpr ((sy_test hl e).mp ((pmk_tb _ _ _).mp c5))
        have := no g
        exact go S' _ _ hlt hv (by rw [this]; exact hk) (by rw [this]) (by rw [this]) bc bs
      · have g : gvB F G i s = true := by
          by_cases g : gvB F G i s = true
          · exact g
          · exact absurd ((pmk_tb _ _ _).mpr ((sy_test hl e).mpr g)) (by rw [c5]; decide)
        have e1 := yes g
        have hle := syL_len (F := F) (S := G) (s := s) (p := p) i
        have elen : (syL F G s p (i + 1)).length = (syL F G s p i).length + 1 := by rw [e1, List.length_append]; rfl
        obtain ⟨r, hr⟩ : ∃ r, (syL F G s p yn).length = (syL F G s p i).length + 1 + r := by
          have h6 := syL_le (F := F) (S := G) (s := s) (p := p) (show i + 1 ≤ yn from hlt)
          exact ⟨(syL F G s p yn).length - ((syL F G s p i).length + 1), by omega⟩
        have bc1 : gcN m n ((syL F G s p i).length + 1) ≤ mc := by
          rw [hr, gcN_add] at hc; omega
        have bs1 : gsN m n ((syL F G s p i).length + 1) ≤ ms := by
          rw [hr, gsN_add] at hs; omega
        have hln : (l ++ (s, p) :: syL F G s p i).length = n + (syL F G s p i).length := by
          rw [← hn, List.length_append, List.length_append, List.length_cons, List.length_singleton]; omega
        refine ⟨h1, c, c1, cX_mk c2 c3 (by decide) (show i < 10 by omega) rfl, hk.1, (if n + (syL F G s p i).length = gwN m n (syL F G s p i).length then 2 else 0), (if n + (syL F G s p i).length = gwN m n (syL F G s p i).length then 4 * gwN m n (syL F G s p i).length + 8 else 0), bc1, bs1, ?_⟩
        rw [c4]
        refine q_putToken1 hk hln (by omega) hp (Nat.le_refl _) (Nat.le_refl _) (fun T hvT hkT => ?_)
        refine go T _ _ hlt (tEv_tr hv hvT) ?_ (by rw [elen]; rfl) (by rw [elen]; rfl) bc1 bs1
        rw [elen, e1]
        rw [List.append_assoc] at hkT
        exact hkT
  · obtain rfl : i = yn := by omega
    exact ⟨⟨bc, bs⟩, h S' hv hk⟩
end TO
