/-! the class: groups, queries -/
section QR
variable {S T U : cS} {ρ ρ' ρ'' : Nat → Nat} {dp x n m : Nat} {nd : Nat → Nd} {qs : List (Nat × (Nat → Nd))}
theorem q_checkParts {Q : cS → Prop} {k : Nat} (hx : cA S x 11) (g : gPr S ρ dp x m nd) (hk : k ≤ (qsS nd m).1) (h8 : (qsS nd m).1 < 100) (h : Q S) : k_X11_checkParts Q dp x (nI k) S := by
  obtain ⟨q, e, g1, g2, g3, -⟩ := g
  unfold k_X11_checkParts
  refine ⟨hx, q, e, g1, ?_⟩
  rw [g3]
  exact pk_le k (qsS nd m).1 (fun _ => h) (fun z => absurd z (by omega))
theorem x_checkParts {Q : cS → Prop} {k mc ms : Nat} (hx : cA S x 11) (g : gPr S ρ dp x m nd) (hk : (qsS nd m).1 < k) (hk2 : k < 100) (hm : 1 ≤ mc) (hs : 6 ≤ ms) (h : Q S) : kx_X11_checkParts "java/lang/IllegalStateException" Q dp mc ms x (nI k) S := by
  obtain ⟨q, e, g1, g2, g3, -⟩ := g
  unfold kx_X11_checkParts
  refine ⟨hx, q, e, g1, ?_⟩
  rw [g3]
  exact pk_le k (qsS nd m).1 (fun z => absurd z (by omega)) (fun _ => ⟨rfl, ⟨by omega, by omega⟩, h⟩)
theorem g_least {Q : Int32 → cS → Prop} {k l mc ms : Nat} (hx : cA S x 11) (hρ : ρ x = 1) (g : gPr S ρ dp x m nd) (hk : 2 ≤ k ∧ k ≤ 8) (hl : 1 ≤ l ∧ l ≤ k) (hp : k ≤ (qsS nd m).1) (h8 : (qsS nd m).1 ≤ 8) (hm47 : m ≤ 47) (hdp : dpO dp S) (hm : 10 ≤ mc) (hs : 200 ≤ ms) (h : ∀ U ρ', fr S U ρ ρ' [13] → (∀ a, a ∈ cL S → ρ' a = ρ a) → (∀ z, cr U z x = cr S z x) → gPr U ρ' dp x (m + 1) (upR nd m ((6, 0, l, k), false, [], [], 0)) → Q (nI ((qsS nd m).1 - (k - 1))) U) : k_X11_least Q dp mc ms x (nI k) (nI l) S := by
  obtain ⟨q, e, gq⟩ := id g
  unfold k_X11_least
  refine pk_lt k 2 (fun z => absurd z (by omega)) (fun _ => pk_lt 8 k (fun z => absurd z (by omega)) (fun _ => pk_lt l 1 (fun z => absurd z (by omega)) (fun _ => pk_le l k (fun _ => ⟨hx, ⟨by omega, by omega⟩, q_checkParts hx g hp (by omega) ⟨hx, q, e, 5, 11, by omega, by omega, ?_⟩⟩) (fun z => absurd z (by omega)))))
  refine q_ofParts (ρ := ρ) (k := 6) (n := k) (l := l) (by decide) (Nat.le_refl _) (Nat.le_refl _) (fun T ρ1 p f1 np nd1 => ?_)
  have x1 := fr_A f1 hx
  have r1 : ∀ z, cr T z x = cr S z x := fun z => fr_cr f1 hx (by simp)
  have ρ1x : ρ1 x = 1 := fr_tg f1 hx.1 hρ (by simp)
  refine ⟨fr_A f1 gq.1, 1, 130, by omega, by omega, q_putGroup gq f1 np nd1 rfl (show k ≤ (qsS nd m).1 from hp) (show 1 ≤ k by omega) h8 hm47 dp_O (Nat.le_refl _) (Nat.le_refl _) (fun U ρ2 f2 t2 gU => ⟨⟨by omega, by omega⟩, ?_⟩)⟩
  have r2 : ∀ z, cr U z x = cr S z x := fun z => (fr_cr f2 x1 (by rw [ρ1x]; decide)).trans (r1 z)
  refine h U ρ2 (fr_mix (fr_up f1 rfl) f2) (fun a ha => (t2 a (f1.1 a ha).1.1).trans (f1.2 a ha (by simp))) r2 ⟨q, (r2 _).trans e, ?_⟩
  have e1 : qsS (upR nd m ((6, 0, l, k), false, [], [], 0)) m = qsS nd m := qsS_ext (fun j hj => upR_n (by omega))
  unfold gQy
  rw [qsS, upR_s, if_neg (show ¬ nLf ((6, 0, l, k), false, [], [], 0) = true from Bool.false_ne_true), e1]
  refine gQz_ext (fun _ _ => rfl) (fun i hi => ?_) (fun _ _ => rfl) gU
  show upR (fun j => if nK ((6, 0, l, k), false, [], [], 0) = 7 ∧ (qsS nd m).2.1 ((qsS nd m).1 - 1) ≤ j ∧ j < m then true else (qsS nd m).2.2 j) m false i = upR (qsS nd m).2.2 m false i
  by_cases c : i = m
  · rw [c, upR_s, upR_s]
  · rw [upR_n c, upR_n c, if_neg]
    rintro ⟨c1, -⟩
    exact absurd (show (6 : Nat) = 7 from c1) (by decide)
theorem g_but {Q : Int32 → cS → Prop} {mc ms : Nat} (hx : cA S x 11) (hρ : ρ x = 1) (g : gPr S ρ dp x m nd) (hp : 2 ≤ (qsS nd m).1) (h8 : (qsS nd m).1 ≤ 8) (hst : (qsS nd m).2.1 ((qsS nd m).1 - 1) ≤ m) (hm47 : m ≤ 47) (hdp : dpO dp S) (hm : 10 ≤ mc) (hs : 200 ≤ ms) (h : ∀ U ρ', fr S U ρ ρ' [12, 13] → (∀ a, a ∈ cL S → ρ' a = ρ a) → (∀ z, cr U z x = cr S z x) → gPr U ρ' dp x (m + 1) (upR nd m ((7, 0, 1, 2), false, [], [], 0)) → Q (nI ((qsS nd m).1 - 1)) U) : k_X11_but Q dp mc ms x S := by
  obtain ⟨q, e, gq⟩ := id g
  unfold k_X11_but
  refine ⟨hx, ⟨by omega, by omega⟩, q_checkParts (k := 2) hx g hp (by omega) ⟨hx, q, e, gq.1, ⟨by omega, by omega⟩, q_setLastAside gq (by omega) h8 hst (by omega) (fun S3 f3 g3 => ?_)⟩⟩
  have x3 := fr_A f3 hx
  have r3 : ∀ z, cr S3 z x = cr S z x := fun z => fr_cr f3 hx (by rw [hρ]; decide)
  refine ⟨x3, q, (r3 _).trans e, 5, 11, by omega, by omega, ?_⟩
  refine q_ofParts (ρ := ρ) (k := 7) (n := 2) (l := 1) (by decide) (Nat.le_refl _) (Nat.le_refl _) (fun T ρ1 p f1 np nd1 => ?_)
  have x1 := fr_A f1 x3
  have r1 : ∀ z, cr T z x = cr S z x := fun z => (fr_cr f1 x3 (by simp)).trans (r3 z)
  have ρ1x : ρ1 x = 1 := fr_tg f1 x3.1 hρ (by simp)
  refine ⟨fr_A f1 g3.1, 1, 130, by omega, by omega, q_putGroup g3 f1 np nd1 rfl (show 2 ≤ (qsS nd m).1 from hp) (show 1 ≤ 2 by decide) h8 hm47 dp_O (Nat.le_refl _) (Nat.le_refl _) (fun U ρ2 f2 t2 gU => ⟨⟨by omega, by omega⟩, ?_⟩)⟩
  have r2 : ∀ z, cr U z x = cr S z x := fun z => (fr_cr f2 x1 (by rw [ρ1x]; decide)).trans (r1 z)
  refine h U ρ2 (fr_mix (fr_up f3 rfl) (fr_mix (fr_up f1 rfl) (fr_up f2 rfl))) (fun a ha => (t2 a (f1.1 a (f3.1 a ha).1.1).1.1).trans (f1.2 a (f3.1 a ha).1.1 (by simp))) r2 ⟨q, (r2 _).trans e, ?_⟩
  have e1 : qsS (upR nd m ((7, 0, 1, 2), false, [], [], 0)) m = qsS nd m := qsS_ext (fun j hj => upR_n (by omega))
  unfold gQy
  rw [qsS, upR_s, if_neg (show ¬ nLf ((7, 0, 1, 2), false, [], [], 0) = true from Bool.false_ne_true), e1]
  refine gQz_ext (fun _ _ => rfl) (fun i hi => ?_) (fun _ _ => rfl) gU
  show upR (fun j => if nK ((7, 0, 1, 2), false, [], [], 0) = 7 ∧ (qsS nd m).2.1 ((qsS nd m).1 - 1) ≤ j ∧ j < m then true else (qsS nd m).2.2 j) m false i = upR (fun j => if (qsS nd m).2.1 ((qsS nd m).1 - 1) ≤ j ∧ j < m then true else (qsS nd m).2.2 j) m false i
  by_cases c : i = m
  · rw [c, upR_s, upR_s]
  · rw [upR_n c, upR_n c]
    show (if nK ((7, 0, 1, 2), false, [], [], 0) = 7 ∧ (qsS nd m).2.1 ((qsS nd m).1 - 1) ≤ i ∧ i < m then true else (qsS nd m).2.2 i) = (if (qsS nd m).2.1 ((qsS nd m).1 - 1) ≤ i ∧ i < m then true else (qsS nd m).2.2 i)
    by_cases c2 : (qsS nd m).2.1 ((qsS nd m).1 - 1) ≤ i ∧ i < m
    · rw [if_pos c2, if_pos ⟨rfl, c2⟩]
    · rw [if_neg c2, if_neg (fun w => c2 w.2)]
/-- new parts in place of the old ones; the old ones' cells get another tag -/
def ptg (S : cS) (ρ : Nat → Nat) (κ b : Nat) : Nat → Nat := fun a => if a ∈ cL S then (if ρ a = 12 ∨ ρ a = 13 then κ else ρ a) else if a = b then 18 else 13
theorem ptg_o {κ b a : Nat} (h : a ∈ cL S) (h2 : ρ a ≠ 12) (h3 : ρ a ≠ 13) : ptg S ρ κ b a = ρ a := by
  unfold ptg
  rw [if_pos h, if_neg (fun w => w.elim h2 h3)]
theorem ptg_k {κ b a : Nat} (h : a ∈ cL S) (h2 : ρ a = 12 ∨ ρ a = 13) : ptg S ρ κ b a = κ := by
  unfold ptg
  rw [if_pos h, if_pos h2]
theorem ptg_fr {κ b : Nat} {M : List Nat} (s : cSub S T (fun a => ρ a ∈ M)) (h12 : 12 ∈ M) (h13 : 13 ∈ M) : fr S T ρ (ptg S ρ κ b) M := ⟨s, fun a ha h => ptg_o ha (fun e => h (by rw [e]; exact h12)) (fun e => h (by rw [e]; exact h13))⟩
theorem g_newParts {q b κ : Nat} (hx : cA S x 11) (hρ : ρ x = 1) (s : cSub S T (fun _ => False)) (hb : b ∉ cL S) (g : ∀ ρ' : Nat → Nat, (∀ a, a ∉ cL S → a ≠ b → ρ' a = 13) → ρ' b = 18 → ∀ nd : Nat → Nd, gQy T ρ' dp 13 12 q 0 nd) (e : U = cSr T 362 x (some q)) : fr S U ρ (ptg S ρ κ b) [1, 12, 13] ∧ (∀ nd : Nat → Nd, gPr U (ptg S ρ κ b) dp x 0 nd) ∧ (∀ z, z ≠ 362 → cr U z x = cr S z x) ∧ ptg S ρ κ b x = 1 := by
  have s2 : cSub T U (fun z => z = x) := e ▸ sub_Sr rfl
  have xT := sub_A1 s hx
  have ρ'x : ptg S ρ κ b x = 1 := (ptg_o hx.1 (by rw [hρ]; decide) (by rw [hρ]; decide)).trans hρ
  have sU : cSub S U (fun a => ρ a ∈ [1, 12, 13]) := sub_tr (sub_wk s (fun _ _ z => z.elim)) s2 (fun a ha z => by rw [show a = x from z, hρ]; decide)
  refine ⟨ptg_fr sU (by decide) (by decide), fun nd => ⟨q, hr_Sr_s e, ?_⟩, fun z hz => by rw [e]; exact (mU_nq hz).trans (sub_cr s hx (fun w => w)), ρ'x⟩
  have f : fr T U (ptg S ρ κ b) (ptg S ρ κ b) [1] := ⟨sub_wk s2 (fun z _ hz => by rw [hz, ρ'x]; decide), fun _ _ _ => rfl⟩
  refine gQy_f f (by decide) (by decide) (by decide) (g _ (fun a ha hne => ?_) ?_ nd)
  · unfold ptg; rw [if_neg ha, if_neg hne]
  · unfold ptg; rw [if_neg hb, if_pos rfl]
theorem g_query {Q : Int32 → cS → Prop} {mc ms : Nat} (hx : cA S x 11) (hρ : ρ x = 1) (g : gPr S ρ dp x m nd) (gl : gQl S ρ dp x qs) (h1 : (qsS nd m).1 = 1) (h40 : qs.length < 40) (hdp : dpO dp S) (hm : 10 ≤ mc) (hs : 300 ≤ ms) (h : ∀ U ρ', fr S U ρ ρ' [1, 12, 13, 16] → (∀ z, z ≠ 362 → cr U z x = cr S z x) → ρ' x = 1 → (∀ nd : Nat → Nd, gPr U ρ' dp x 0 nd) → gQl U ρ' dp x (qs ++ [(m, nd)]) → Q (nI qs.length) U) : k_X11_query Q dp mc ms x S := by
  obtain ⟨q, e, gq⟩ := id g
  obtain ⟨ql, l, lm, el, l1, l2, l3, l4, l5⟩ := id gl
  have hll := parL_len l5
  obtain ⟨z1, z2, z3, z4, z5⟩ := gwL_b l1.2.2.1 l3 l4 (Nat.le_refl _) (by omega)
  unfold k_X11_query
  refine ⟨hx, q, e, gq.1, ?_⟩
  rw [gq.2.2.1, h1]
  refine ⟨fun c => absurd rfl c, fun _ => ⟨hx, ql, el, l1.1, ⟨by omega, by omega⟩, q_lsize l1 (pk_lt l.length 40 (fun _ => ?_) (fun z => absurd z (by omega)))⟩⟩
  refine ⟨hx, ql, el, hx, q, e, l1.1, 1, 130, by omega, by omega, q_ladd hdp l1 z5 gq.1 z1 z2 (fun S8 v8 t8 => ⟨⟨by omega, by omega⟩, fun q9 hq9 S10 e10 => ⟨4, 22, by omega, by omega, ?_⟩⟩)⟩
  obtain ⟨ρ8, hρ8⟩ : ∃ r, r = rtg S id ρ 16 := ⟨_, rfl⟩
  have o8 : ∀ a, a ∈ cL S → ρ8 a = ρ a := fun a ha => by rw [hρ8]; exact rtg_o ha
  have f8 : fr S S8 ρ ρ8 [16] := ⟨sub_wk v8.1 (fun z _ hz => by rw [l2 z hz]; decide), fun a ha _ => o8 a ha⟩
  have x8 := fr_A f8 hx
  have ρx8 : ρ8 x = 1 := (o8 x hx.1).trans hρ
  have dp8 : dpO dp S := dp_O
  refine q_qInit hq9 e10 dp8 (Nat.le_refl _) (Nat.le_refl _) (fun T b s hb gn => ⟨sub_A1 s x8, fun U eU => ?_⟩)
  obtain ⟨f, gp, r, ρx⟩ := g_newParts (κ := 17) x8 ρx8 s hb gn eU
  have fAll : fr S U ρ (ptg S8 ρ8 17 b) [1, 12, 13, 16] := fr_mix (fr_up f8 rfl) (fr_up f rfl)
  have s2 : cSub T U (fun z => z = x) := eU ▸ sub_Sr rfl
  have s8U : cSub S8 U (fun z => z = x) := sub_tr (sub_wk s (fun _ _ z => z.elim)) s2 (fun _ _ z => z)
  have tU : lsT U dp ql 6 (l ++ [q]) (gwL lm l.length) := lsT_sub s8U t8 (fun z hz => ls_nk t8 hz x8 (by decide) (by decide))
  have rU : ∀ z, z ≠ 362 → cr U z x = cr S z x := fun z hz => (r z hz).trans (fr_cr f8 hx (by rw [hρ]; decide))
  have Fq : ∀ z, lsF U dp ql z ↔ lsF S8 dp ql z := fun z => lsF_eq s8U t8 (cA_ne t8.1 x8 (by decide))
  refine ⟨sub_A1 s2 (sub_A1 s x8), ql, (rU _ (by decide)).trans el, tU.1, ⟨by omega, by omega⟩, q_lsize tU ⟨⟨by omega, by omega⟩, ?_⟩⟩
  rw [List.length_append, show l.length + [q].length = l.length + 1 from rfl, pk_sub (by omega), Nat.add_sub_cancel, hll]
  refine h U _ fAll rU ρx gp ⟨ql, l ++ [q], _, (rU _ (by decide)).trans el, tU, fun z hz => ?_, z3, by rw [List.length_append]; exact z4, parL_snoc (parL_imp (fun q' e' g' => ?_) l5) ?_⟩
  · have hz8 := (Fq z).mp hz
    have t16 : ρ8 z = 16 := by
      rcases v8.2 z hz8 with w | w
      · exact (o8 z (lsF_in l1 w)).trans (l2 z w)
      · rw [hρ8]; exact rtg_n w
    exact (ptg_o (lsF_in t8 hz8) (by rw [t16]; decide) (by rw [t16]; decide)).trans t16
  · exact gQy_f fAll (by decide) (by decide) (by decide) g'
  · -- the old parts are a query now
    have f8q := gQy_f f8 (by decide) (by decide) (by decide) gq
    obtain ⟨ρt, hρt⟩ : ∃ r : Nat → Nat, r = fun a => if ρ8 a = 12 ∨ ρ8 a = 13 then 17 else ρ8 a := ⟨_, rfl⟩
    have gT : gQy S8 ρt dp 17 17 q m nd := gQz_tg (fun a ha => by rw [hρt]; exact if_pos (Or.inr ha)) (fun a ha => by rw [hρt]; exact if_pos (Or.inl ha)) (fun a ha => by rw [hρt]; exact (if_neg (by rw [ha]; decide)).trans ha) f8q
    have ρtx : ρt x = 1 := by rw [hρt]; exact (if_neg (by rw [ρx8]; decide)).trans ρx8
    have fT : fr S8 U ρt (ptg S8 ρ8 17 b) [1] := ⟨sub_wk s8U (fun z _ hz => by rw [hz, ρtx]; decide), fun a ha _ => by unfold ptg; rw [if_pos ha, hρt]⟩
    exact gQy_f fT (by decide) (by decide) (by decide) gT
end QR
