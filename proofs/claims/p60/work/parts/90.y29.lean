/-! what a merge takes: documents are listed -/
/-- those at places that hold -/
def selA {α : Type} (f : Nat → Bool) : Nat → List α → List α
  | _, [] => []
  | k, x :: l => if f k = true then x :: selA f (k + 1) l else selA f (k + 1) l
theorem selA_snoc {α : Type} {f : Nat → Bool} {x : α} : ∀ (l : List α) (k : Nat), selA f k (l ++ [x]) = selA f k l ++ (if f (k + l.length) = true then [x] else [])
  | [], k => by
    rw [List.nil_append]
    show (if f k = true then [x] else []) = [] ++ (if f (k + 0) = true then [x] else [])
    rw [List.nil_append, Nat.add_zero]
  | y :: l, k => by
    rw [List.cons_append]
    show (if f k = true then y :: selA f (k + 1) (l ++ [x]) else selA f (k + 1) (l ++ [x])) = (if f k = true then y :: selA f (k + 1) l else selA f (k + 1) l) ++ _
    rw [selA_snoc l (k + 1), List.length_cons, show k + 1 + l.length = k + (l.length + 1) by omega]
    split <;> rfl
theorem selA_take {α : Type} {f : Nat → Bool} {l : List α} {k : Nat} {x : α} (h : l[k]? = some x) : selA f 0 (l.take (k + 1)) = selA f 0 (l.take k) ++ (if f k = true then [x] else []) := by
  have hk := get_lt h
  rw [List.take_succ, h]
  show selA f 0 (l.take k ++ [x]) = _
  rw [selA_snoc, List.length_take, Nat.min_eq_left (by omega), Nat.zero_add]
theorem selA_len {α : Type} {f : Nat → Bool} {l : List α} : ∀ {k : Nat}, k ≤ l.length → (selA f 0 (l.take k)).length = cntB f k
  | 0, _ => by rw [List.take_zero]; rfl
  | k + 1, h => by
    obtain ⟨x, hx⟩ := get_ex (l := l) (k := k) (by omega)
    rw [selA_take hx, List.length_append, selA_len (by omega), cntB]
    split <;> rfl
theorem cntB_mono (f : Nat → Bool) (a : Nat) : ∀ d : Nat, cntB f a ≤ cntB f (a + d)
  | 0 => Nat.le_refl _
  | d + 1 => Nat.le_trans (cntB_mono f a d) (Nat.le_add_right _ _)
theorem cntB_imp {f g : Nat → Bool} (h : ∀ i, f i = true → g i = true) : ∀ n : Nat, cntB f n ≤ cntB g n
  | 0 => Nat.le_refl _
  | n + 1 => by
    have := cntB_imp h n
    rw [cntB, cntB]
    by_cases c : f n = true
    · rw [if_pos c, if_pos (h n c)]; omega
    · rw [if_neg c]; omega
/-- lists under way, with tags -/
def lsG (S : cS) (ρ : Nat → Nat) (dp a τ : Nat) (l : List Nat) (m : Nat) : Prop := lsT S dp a 0 l m ∧ (∀ z, lsF S dp a z → ρ z = τ) ∧ (m = 0 ∨ 10 ≤ m) ∧ 2 * m ≤ 20 + 3 * l.length
section GA
variable {S T : cS} {ρ ρ' : Nat → Nat} {dp a d : Nat}
theorem lsG_sub {F : Nat → Prop} {τ m : Nat} {l : List Nat} (s : cSub S T F) (hρ : ∀ z, z ∈ cL S → ρ' z = ρ z) (g : lsG S ρ dp a τ l m) (hF : ∀ z, ρ z = τ → ¬ F z) : lsG T ρ' dp a τ l m := by
  obtain ⟨g1, g2, g3, g4⟩ := g
  have nF : ∀ z, lsF S dp a z → ¬ F z := fun z hz => hF z (g2 z hz)
  refine ⟨lsT_sub s g1 nF, fun z hz => ?_, g3, g4⟩
  have hz' : lsF S dp a z := by
    unfold lsF at hz ⊢
    rw [sub_cr s g1.1 (nF a (Or.inl rfl))] at hz; exact hz
  rw [hρ z (lsF_in g1 hz')]
  exact g2 z hz'
/-- an element is put, at most 100 are there then -/
theorem q_lsGadd {Q : Int32 → cS → Prop} {τ m y mc ms : Nat} {l : List Nat} (hdp : dpO dp S) (g : lsG S ρ dp a τ l m) (hy : cA S y 0) (hl : l.length < 1000) (hc : (if l.length = m then 1 else 0) ≤ mc) (hs : (if l.length = m then gwL m m else 0) ≤ ms) (h : ∀ T, cSub S T (fun z => ρ z = τ) → lsG T (rtg S id ρ τ) dp a τ (l ++ [y]) (gwL m l.length) → Q (bI true) T) : k_Jx4a65c_add_9ea2d Q dp mc ms a y S := by
  obtain ⟨g1, g2, g3, g4⟩ := g
  have hlm := g1.2.2.1
  obtain ⟨y1, y2, y3⟩ := gwL_le hlm g4 (Nat.le_refl _)
  refine q_ladd hdp g1 (by omega) hy hc hs (fun T v t => h T (sub_wk v.1 (fun z _ hz => g2 z hz)) ⟨t, fun z hz => ?_, ?_, ?_⟩)
  · rcases v.2 z hz with w | w
    · exact (rtg_o (lsF_in g1 w)).trans (g2 z w)
    · exact rtg_n w
  · unfold gwL
    split
    · split <;> omega
    · exact g3
  · rw [List.length_append]; exact y1
theorem q_gather {Q : cS → Prop} {h A r N h' A' r' n m md mc ms : Nat} {lvS lv : Nat → Bool} {ds l dl : List Nat} {L : List Dc} (gh : hoT S h A r N lvS) (gh' : hoT S h' A' r' N lv) (gs : sgT S dp A n ds L) (hN : N = L.length) (la : lsG S ρ dp a 82 l m) (ld : lsG S ρ dp d 83 dl md) (hdp : dpO dp S)
    (hl : l.length + cntB lvS N ≤ 100) (hd : dl.length + cntB lvS N ≤ 100) (hc : 70 ≤ mc) (hs : 1400 ≤ ms)
    (n1 : ∀ z, z = h ∨ z = r ∨ z = h' ∨ z = r' ∨ z = A ∨ z ∈ ds → ρ z ≠ 82 ∧ ρ z ≠ 83) (n2 : ∀ b z, cr S 257 A = some b → lsF S dp b z → ρ z ≠ 82 ∧ ρ z ≠ 83)
    (hQ : ∀ T ρ' m' md', cSub S T (fun z => ρ z = 82 ∨ ρ z = 83) → (∀ z, z ∈ cL S → ρ' z = ρ z) → lsG T ρ' dp a 82 (l ++ selA lvS 0 ds) m' → lsG T ρ' dp d 83 (dl ++ selA (fun j => lvS j && !lv j) 0 ds) md' → Q T) : k_X2_gather Q dp mc ms h h' a d S := by
  have hN100 : N ≤ 100 := gh.2.2.2.2.2.1
  have hdl : ds.length = N := by rw [hN]; exact gs.2.2.1
  unfold k_X2_gather k_X2_gather_3L
  refine lfp_cnt N (fun k y => ∃ S' ρ' m' md' cd dd, cSub S S' (fun z => ρ z = 82 ∨ ρ z = 83) ∧ (∀ z, z ∈ cL S → ρ' z = ρ z) ∧ lsG S' ρ' dp a 82 (l ++ selA lvS 0 (ds.take k)) m' ∧ lsG S' ρ' dp d 83 (dl ++ selA (fun j => lvS j && !lv j) 0 (ds.take k)) md' ∧ cd ≤ m' / 5 + md' / 5 ∧ dd ≤ 4 * m' + 4 * md' ∧ y = (h, h', a, d, nI k, cd, dd, S')) ?_ ⟨S, ρ, m, md, 0, 0, sub_rf, fun _ _ => rfl, by rw [List.take_zero]; show lsG S ρ dp a 82 (l ++ []) m; rw [List.append_nil]; exact la, by rw [List.take_zero]; show lsG S ρ dp d 83 (dl ++ []) md; rw [List.append_nil]; exact ld, Nat.zero_le _, Nat.zero_le _, rfl⟩
  rintro P k _ hk ⟨S', ρ', m', md', cd, dd, s, hρ, la', ld', hcd, hdd, rfl⟩ ih
  show k_X2_gather_3 Q dp mc ms _ h h' a d (nI k) cd dd S'
  have nn : ∀ {z : Nat}, (ρ z ≠ 82 ∧ ρ z ≠ 83) → ¬ (ρ z = 82 ∨ ρ z = 83) := fun w u => u.elim w.1 w.2
  have ngh := hoT_sub s gh (nn (n1 h (Or.inl rfl))) (nn (n1 r (Or.inr (Or.inl rfl))))
  have ngh' := hoT_sub s gh' (nn (n1 h' (Or.inr (Or.inr (Or.inl rfl))))) (nn (n1 r' (Or.inr (Or.inr (Or.inr (Or.inl rfl))))))
  have ngs := sgT_sub s gs (nn (n1 A (Or.inr (Or.inr (Or.inr (Or.inr (Or.inl rfl))))))) (fun b z hb hz => nn (n2 b z hb hz)) (fun D hD => nn (n1 D (Or.inr (Or.inr (Or.inr (Or.inr (Or.inr hD)))))))
  have len1 : (l ++ selA lvS 0 (ds.take k)).length ≤ 100 := by
    have h1 := cntB_mono lvS k (N - k)
    rw [show k + (N - k) = N by omega] at h1
    rw [List.length_append, selA_len (by omega)]; omega
  have len2 : (dl ++ selA (fun j => lvS j && !lv j) 0 (ds.take k)).length ≤ 100 := by
    have h1 := cntB_mono lvS k (N - k)
    rw [show k + (N - k) = N by omega] at h1
    have h2 := cntB_imp (f := fun j => lvS j && !lv j) (g := lvS) (fun i hi => (Bool.and_eq_true _ _ ▸ hi).1) k
    rw [List.length_append, selA_len (by omega)]; omega
  have B : cd ≤ mc ∧ dd ≤ ms := by
    have := la'.2.2.2
    have := ld'.2.2.2
    exact ⟨by omega, by omega⟩
  unfold k_X2_gather_3
  refine ⟨ngh.1, A, ngh.2.1, ngs.1, B, q_sgSize ngs (pk_le L.length k (fun z => ?_) (fun z => ?_))⟩
  · obtain rfl : k = N := by omega
    rw [List.take_of_length_le (by omega)] at la' ld'
    exact ⟨B, hQ S' ρ' m' md' s hρ la' ld'⟩
  · obtain ⟨D, hD⟩ := get_ex (l := ds) (k := k) (by omega)
    have t1 := selA_take (f := lvS) hD
    have t2 := selA_take (f := fun j => lvS j && !lv j) hD
    have nxt : ∀ (T : cS) (ρ3 : Nat → Nat) (m3 md3 cd3 dd3 : Nat), cSub S T (fun z => ρ z = 82 ∨ ρ z = 83) → (∀ z, z ∈ cL S → ρ3 z = ρ z) → lsG T ρ3 dp a 82 (l ++ selA lvS 0 (ds.take (k + 1))) m3 → lsG T ρ3 dp d 83 (dl ++ selA (fun j => lvS j && !lv j) 0 (ds.take (k + 1))) md3 → cd3 ≤ m3 / 5 + md3 / 5 → dd3 ≤ 4 * m3 + 4 * md3 → k_X2_gather_73 Q dp mc ms (fun b0 b1 b2 b3 b4 b5 b6 S => P (b0, b1, b2, b3, b4, b5, b6, S)) h h' a d (nI k) cd3 dd3 T := by
      intro T ρ3 m3 md3 cd3 dd3 e1 e2 e3 e4 e5 e6
      unfold k_X2_gather_73
      rintro _ rfl
      rw [nI_add]
      exact ih _ (by omega) ⟨T, ρ3, m3, md3, cd3, dd3, e1, e2, e3, e4, e5, e6, rfl⟩
    refine ⟨ngh.1, B, q_isLive ngh (by omega) ?_⟩
    rw [decide_eq_true (show k < N by omega), Bool.true_and]
    refine w_b0 _ (fun c => nxt S' ρ' m' md' cd dd s hρ ?_ ?_ hcd hdd) (fun c => ?_)
    · rw [t1, if_neg (by rw [c]; decide), List.append_nil]; exact la'
    · rw [t2, if_neg (by simp [c]), List.append_nil]; exact ld'
    · obtain ⟨s1, s2, s3, ⟨b, mb, s4, s5⟩, s6⟩ := id ngs
      have DA : cA S' D 0 := s5.2.2.2.2.2.1 D (List.mem_of_getElem? hD)
      obtain ⟨y1, y2, y3⟩ := gwL_le (W := (l ++ selA lvS 0 (ds.take k)).length) la'.1.2.2.1 la'.2.2.2 (Nat.le_refl _)
      have y3 := y3 la'.2.2.1
      have hm4 := ld'.2.2.2
      refine ⟨ngh.1, A, ngh.2.1, s1, b, s4, s5.1, B, q_lget s5 hD ⟨DA, la'.1.1, (if (l ++ selA lvS 0 (ds.take k)).length = m' then 1 else 0), (if (l ++ selA lvS 0 (ds.take k)).length = m' then gwL m' m' else 0), by omega, by omega, ?_⟩⟩
      refine q_lsGadd dp_O la' DA (by omega) (Nat.le_refl _) (Nat.le_refl _) (fun T sT lT => ?_)
      have sST : cSub S T (fun z => ρ z = 82 ∨ ρ z = 83) := sub_tr s sT (fun z hz w => Or.inl ((hρ z hz).symm.trans w))
      have hρT : ∀ z, z ∈ cL S → rtg S' id ρ' 82 z = ρ z := fun z hz => (rtg_o (s z hz).1.1).trans (hρ z hz)
      have lT' : lsG T (rtg S' id ρ' 82) dp a 82 (l ++ selA lvS 0 (ds.take (k + 1))) (gwL m' (l ++ selA lvS 0 (ds.take k)).length) := by
        rw [t1, if_pos c, ← List.append_assoc]; exact lT
      have ldT : lsG T (rtg S' id ρ' 82) dp d 83 (dl ++ selA (fun j => lvS j && !lv j) 0 (ds.take k)) md' := lsG_sub (ρ := ρ') sT (fun z hz => rtg_o hz) ld' (fun z (hz : ρ' z = 83) w => absurd (hz.symm.trans w) (by decide))
      have ghT := hoT_sub sST gh (nn (n1 h (Or.inl rfl))) (nn (n1 r (Or.inr (Or.inl rfl))))
      have ghT' := hoT_sub sST gh' (nn (n1 h' (Or.inr (Or.inr (Or.inl rfl))))) (nn (n1 r' (Or.inr (Or.inr (Or.inr (Or.inl rfl))))))
      have gsT := sgT_sub sST gs (nn (n1 A (Or.inr (Or.inr (Or.inr (Or.inr (Or.inl rfl))))))) (fun b z hb hz => nn (n2 b z hb hz)) (fun D hD => nn (n1 D (Or.inr (Or.inr (Or.inr (Or.inr (Or.inr hD)))))))
      have B2 : cd + (if (l ++ selA lvS 0 (ds.take k)).length = m' then 1 else 0) ≤ mc ∧ dd + (if (l ++ selA lvS 0 (ds.take k)).length = m' then gwL m' m' else 0) ≤ ms := ⟨by omega, by omega⟩
      refine ⟨ghT'.1, B2, q_isLive ghT' (by omega) ?_⟩
      rw [decide_eq_true (show k < N by omega), Bool.true_and]
      refine w_bn _ (fun c2 => nxt T _ _ md' _ _ sST hρT lT' ?_ (by omega) (by omega)) (fun c2 => ?_)
      · rw [t2, if_neg (by simp [c2]), List.append_nil]; exact ldT
      · obtain ⟨u1, u2, u3, ⟨b', mb', u4, u5⟩, u6⟩ := id gsT
        have DT : cA T D 0 := u5.2.2.2.2.2.1 D (List.mem_of_getElem? hD)
        obtain ⟨x1, x2, x3⟩ := gwL_le (W := (dl ++ selA (fun j => lvS j && !lv j) 0 (ds.take k)).length) ldT.1.2.2.1 ldT.2.2.2 (Nat.le_refl _)
        have x3 := x3 ldT.2.2.1
        refine ⟨ghT.1, A, ghT.2.1, u1, b', u4, u5.1, B2, q_lget u5 hD ⟨DT, ldT.1.1, (if (dl ++ selA (fun j => lvS j && !lv j) 0 (ds.take k)).length = md' then 1 else 0), (if (dl ++ selA (fun j => lvS j && !lv j) 0 (ds.take k)).length = md' then gwL md' md' else 0), by omega, by omega, ?_⟩⟩
        refine q_lsGadd dp_O ldT DT (by omega) (Nat.le_refl _) (Nat.le_refl _) (fun U sU lU => ?_)
        refine nxt U (rtg T id (rtg S' id ρ' 82) 83) _ (gwL md' (dl ++ selA (fun j => lvS j && !lv j) 0 (ds.take k)).length) _ _ (sub_tr sST sU (fun z hz w => Or.inr ((hρT z hz).symm.trans w))) (fun z hz => (rtg_o (sST z hz).1.1).trans (hρT z hz)) (lsG_sub (ρ := rtg S' id ρ' 82) sU (fun z hz => rtg_o hz) lT' (fun z (hz : rtg S' id ρ' 82 z = 82) w => absurd (hz.symm.trans w) (by decide))) ?_ (by omega) (by omega)
        rw [t2, if_pos (by simp [c, c2]), ← List.append_assoc]; exact lU
end GA
