/-! views: a segment is put, sources are taken out -/
section TAK
variable {S T : cS} {ρ ρ' : Nat → Nat} {dp V hl m : Nat} {so : Nat → Nat} {sd : Nat → List Nat} {sg : Nat → List Dc} {hs ids : List Nat} {lv : Nat → Nat → Bool}
theorem vwT_sub {F : Nat → Prop} (s : cSub S T F) (g : vwT S dp so sd sg V hl m hs ids lv) (hV : ¬ F V) (hL : ∀ z, lsF S dp hl z → ¬ F z) (hH : ∀ y, y ∈ hs → ¬ F y ∧ ∀ r, cr S 65 y = some r → ¬ F r) (hS : ∀ n, n ∈ ids → sgT S dp (so n) n (sd n) (sg n) → sgT T dp (so n) n (sd n) (sg n)) : vwT T dp so sd sg V hl m hs ids lv := by
  obtain ⟨g1, g2, g3, g4, g5⟩ := g
  refine ⟨sub_A1 s g1, (sub_cr s g1 hV).trans g2, lsT_sub s g3 hL, g4, fun i y n hi hn => ?_⟩
  obtain ⟨a, b, c, r, d⟩ := g5 i y n hi hn
  obtain ⟨h1, h2⟩ := hH y (List.mem_of_getElem? hi)
  exact ⟨hS n (List.mem_of_getElem? hn) a, b, c, r, hoT_sub s d h1 (h2 r d.2.2.1)⟩
theorem eraA_get {α : Type} {l : List α} {k j : Nat} {z : α} (h : (l.eraseIdx k)[j]? = some z) : (j < k ∧ l[j]? = some z) ∨ (k ≤ j ∧ l[j + 1]? = some z) := by
  rw [List.getElem?_eraseIdx] at h
  split at h
  · exact Or.inl ⟨by assumption, h⟩
  · exact Or.inr ⟨by omega, h⟩
/-- the list of a view has changed, its segments not -/
theorem vw_ls {V' hl' m' : Nat} {hs' ids' : List Nat} (sg1 : ∀ (i y n : Nat), hs'[i]? = some y → ids'[i]? = some n → ∃ j : Nat, hs[j]? = some y ∧ ids[j]? = some n) (g : vwT S dp so sd sg V hl m hs ids lv) (v : lsEv S T dp hl) (t : lsT T dp hl 2 hs' m') (hlen : hs'.length = ids'.length) (hS : ∀ n, n ∈ ids → sgT S dp (so n) n (sd n) (sg n) → sgT T dp (so n) n (sd n) (sg n)) : vwT T dp so sd sg V hl m' hs' ids' lv := by
  obtain ⟨g1, g2, g3, g4, g5⟩ := g
  have nF : ∀ {a kk : Nat}, cA S a kk → kk ≠ 12 → kk ≠ 17 → ¬ lsF S dp hl a := by
    intro a kk ha h12 h17 hz
    obtain ⟨l1, -, -, -, -, -, b, hb, hx⟩ := g3
    rcases hz with w | ⟨w, w2⟩
    · exact cA_ne ha l1 h12 w
    · obtain rfl : b = a := Option.some.inj (hb.symm.trans w)
      rcases hx with hx | hx
      · exact w2 hx.1
      · exact cA_ne hx.2.2.1 ha (Ne.symm h17) rfl
  refine ⟨sub_A1 v.1 g1, (sub_cr v.1 g1 (nF g1 (by decide) (by decide))).trans g2, t, hlen, fun i y n hi hn => ?_⟩
  obtain ⟨j, hj1, hj2⟩ := sg1 i y n hi hn
  obtain ⟨a, b, c, r, d⟩ := g5 j y n hj1 hj2
  exact ⟨hS n (List.mem_of_getElem? hj2) a, b, c, r, hoT_sub v.1 d (nF d.1 (by decide) (by decide)) (nF d.2.2.2.1 (by decide) (by decide))⟩
theorem q_vput {Q : cS → Prop} {k y n r mc ms : Nat} (g : vwT S dp so sd sg V hl m hs ids lv) (hdp : dpO dp S) (hk : k ≤ ids.length) (hm : m < 5000) (gy : hoT S y (so n) r (sg n).length (lv n)) (gs : sgT S dp (so n) n (sd n) (sg n)) (hN : (sg n).length ≤ 100) (hn : n < 1000) (hS : ∀ T, cSub S T (lsF S dp hl) → ∀ n', n' = n ∨ n' ∈ ids → sgT S dp (so n') n' (sd n') (sg n') → sgT T dp (so n') n' (sd n') (sg n')) (hc : (if hs.length = m then 1 else 0) ≤ mc) (hms : (if hs.length = m then gwL m m else 0) ≤ ms) (h : ∀ T, lsEv S T dp hl → vwT T dp so sd sg V hl (gwL m hs.length) (hs.take k ++ y :: hs.drop k) (ids.take k ++ n :: ids.drop k) lv → Q T) : k_X10_put Q dp mc ms V (nI k) y S := by
  have hlen := vw_len g
  obtain ⟨g1, g2, g3, g4, g5⟩ := id g
  have hkl : k ≤ hs.length := by omega
  unfold k_X10_put
  refine w_pos k ⟨g1, hl, g2, g3.1, ⟨by omega, by omega⟩, q_lsize g3 (pk_lt hs.length k (fun z => absurd z (by omega)) (fun _ => ⟨g1, hl, g2, g3.1, mc, ms, by omega, by omega, q_laddAt hdp g3 hm hkl gy.1 hc hms (fun T v t => ⟨⟨by omega, by omega⟩, h T v ?_⟩)⟩))⟩
  have nF : ∀ {a kk : Nat}, cA S a kk → kk ≠ 12 → kk ≠ 17 → ¬ lsF S dp hl a := by
    intro a kk ha h12 h17 hz
    obtain ⟨l1, -, -, -, -, -, b, hb, hx⟩ := g3
    rcases hz with w | ⟨w, w2⟩
    · exact cA_ne ha l1 h12 w
    · obtain rfl : b = a := Option.some.inj (hb.symm.trans w)
      rcases hx with hx | hx
      · exact w2 hx.1
      · exact cA_ne hx.2.2.1 ha (Ne.symm h17) rfl
  refine ⟨sub_A1 v.1 g1, (sub_cr v.1 g1 (nF g1 (by decide) (by decide))).trans g2, t, by rw [insA_len hkl, insA_len hk, g4], fun i z n' hi hn' => ?_⟩
  have old : ∀ j, hs[j]? = some z → ids[j]? = some n' → sgT T dp (so n') n' (sd n') (sg n') ∧ (sg n').length ≤ 100 ∧ n' < 1000 ∧ ∃ r, hoT T z (so n') r (sg n').length (lv n') := fun j h1 h2 => by
    obtain ⟨a, b, c, r, d⟩ := g5 j z n' h1 h2
    exact ⟨hS T v.1 n' (Or.inr (List.mem_of_getElem? h2)) a, b, c, r, hoT_sub v.1 d (nF d.1 (by decide) (by decide)) (nF d.2.2.2.1 (by decide) (by decide))⟩
  rcases (insA_get hkl).mp hi with ⟨a1, a2⟩ | ⟨a1, a2⟩ | ⟨a1, a2⟩
  · rcases (insA_get hk).mp hn' with ⟨b1, b2⟩ | ⟨b1, b2⟩ | ⟨b1, b2⟩
    · exact old i a2 b2
    · omega
    · omega
  · rcases (insA_get hk).mp hn' with ⟨b1, b2⟩ | ⟨b1, b2⟩ | ⟨b1, b2⟩
    · omega
    · rw [a2, b2]
      exact ⟨hS T v.1 n (Or.inl rfl) gs, hN, hn, r, hoT_sub v.1 gy (nF gy.1 (by decide) (by decide)) (nF gy.2.2.2.1 (by decide) (by decide))⟩
    · omega
  · rcases (insA_get hk).mp hn' with ⟨b1, b2⟩ | ⟨b1, b2⟩ | ⟨b1, b2⟩
    · omega
    · omega
    · exact old _ a2 b2
theorem cut_get {α : Type} {l : List α} {p i j : Nat} (hp : p + i ≤ l.length) : (l.take p ++ l.drop (p + i))[j]? = if j < p then l[j]? else l[j + i]? := by
  have hl : (l.take p).length = p := by rw [List.length_take]; omega
  by_cases c : j < p
  · rw [List.getElem?_append_left (by omega), List.getElem?_take_of_lt c, if_pos c]
  · rw [List.getElem?_append_right (by omega), hl, List.getElem?_drop, if_neg c]
    congr 1; omega
theorem cut_len {α : Type} {l : List α} {p i : Nat} (hp : p + i ≤ l.length) : (l.take p ++ l.drop (p + i)).length = l.length - i := by
  rw [List.length_append, List.length_take, List.length_drop]; omega
theorem cut_era {α : Type} {l : List α} {p i : Nat} (hp : p + i < l.length) : (l.take p ++ l.drop (p + i)).eraseIdx p = l.take p ++ l.drop (p + (i + 1)) := by
  apply List.ext_getElem?
  intro j
  rw [List.getElem?_eraseIdx, cut_get (by omega), cut_get (by omega), cut_get (by omega)]
  by_cases c : j < p
  · rw [if_pos c, if_pos c, if_pos c]
  · rw [if_neg c, if_neg (by omega), if_neg c]
    congr 1; omega
set_option maxHeartbeats 2000000 in
theorem q_takeOut {Q : Int32 → cS → Prop} {M hlM mM p a d mc ms : Nat} {hsM src : List Nat} {lvS : Nat → Nat → Bool} (g : vwT S dp so sd sg V hl m hs ids lv) (gM : vwT S dp so sd sg M hlM mM hsM src lvS) (hnd : ids.Nodup) (hsrc : ∀ (j n : Nat), src[j]? = some n → ids[p + j]? = some n) (hs3 : src.length = 3) (hp : p + 3 ≤ ids.length) (la : lsG S ρ dp a 82 [] 0) (ld : lsG S ρ dp d 83 [] 0) (hdp : dpO dp S) (hc : 210 ≤ mc) (hms : 4200 ≤ ms) (hsum : sumL (fun n => cntB (lvS n) (sg n).length) src ≤ 100)
    (tV : ρ V = 10) (tL : ∀ z, lsF S dp hl z → ρ z = 9) (tH : ∀ y, y ∈ hs → ρ y = 10 ∧ ∀ r, cr S 65 y = some r → ρ r = 10)
    (tM : ρ M = 11) (tLM : ∀ z, lsF S dp hlM z → ρ z = 11) (tHM : ∀ y, y ∈ hsM → ρ y = 11 ∧ ∀ r, cr S 65 y = some r → ρ r = 11)
    (tS : ∀ n, n ∈ ids → ρ (so n) = 8 ∧ (∀ D, D ∈ sd n → ρ D = 8) ∧ ∀ b z, cr S 257 (so n) = some b → lsF S dp b z → ρ z = 8)
    (hQ : ∀ T ρ' m1 m2, cSub S T (fun z => ρ z = 9 ∨ ρ z = 82 ∨ ρ z = 83) → (∀ z, z ∈ cL S → ρ' z = ρ z) → (∀ z, lsF T dp hl z → ρ' z = 9) → vwT T dp so sd sg V hl m (hs.take p ++ hs.drop (p + 3)) (ids.take p ++ ids.drop (p + 3)) lv → lsG T ρ' dp a 82 (src.flatMap (fun n => selA (lvS n) 0 (sd n))) m1 → lsG T ρ' dp d 83 (src.flatMap (fun n => selA (fun j => lvS n j && !lv n j) 0 (sd n))) m2 → Q (nI p) T) : k_X10_takeOut Q dp mc ms V M a d S := by
  have hlen := vw_len g
  have hlM' := vw_len gM
  obtain ⟨g1, g2, g3, g4, g5⟩ := id g
  have nF8 : ∀ {z : Nat}, ρ z = 8 ∨ ρ z = 10 ∨ ρ z = 11 → ¬ (ρ z = 9 ∨ ρ z = 82 ∨ ρ z = 83) := fun h => by omega
  have sgS : ∀ {S' : cS}, cSub S S' (fun z => ρ z = 9 ∨ ρ z = 82 ∨ ρ z = 83) → ∀ n, n ∈ ids → sgT S dp (so n) n (sd n) (sg n) → sgT S' dp (so n) n (sd n) (sg n) := fun s n hn gs => sgT_sub s gs (nF8 (Or.inl (tS n hn).1)) (fun b z hb hz => nF8 (Or.inl ((tS n hn).2.2 b z hb hz))) (fun D hD => nF8 (Or.inl ((tS n hn).2.1 D hD)))
  have srcin : ∀ n, n ∈ src → n ∈ ids := fun n hn => by
    obtain ⟨j, hj⟩ := List.getElem?_of_mem hn
    exact List.mem_of_getElem? (hsrc j n hj)
  have mkM : ∀ {S' : cS}, cSub S S' (fun z => ρ z = 9 ∨ ρ z = 82 ∨ ρ z = 83) → vwT S' dp so sd sg M hlM mM hsM src lvS := fun s => vwT_sub s gM (nF8 (Or.inr (Or.inr tM))) (fun z hz => nF8 (Or.inr (Or.inr (tLM z hz)))) (fun y hy => ⟨nF8 (Or.inr (Or.inr (tHM y hy).1)), fun r hr => nF8 (Or.inr (Or.inr ((tHM y hy).2 r hr)))⟩) (fun n hn => sgS s n (srcin n hn))
  have mkV : ∀ {S' : cS} {i : Nat}, i ≤ 3 → cSub S S' (fun z => ρ z = 9 ∨ ρ z = 82 ∨ ρ z = 83) → lsT S' dp hl 2 (hs.take p ++ hs.drop (p + i)) m → vwT S' dp so sd sg V hl m (hs.take p ++ hs.drop (p + i)) (ids.take p ++ ids.drop (p + i)) lv := fun {S' i} hi s t => by
    refine ⟨sub_A1 s g1, (sub_cr s g1 (nF8 (Or.inr (Or.inl tV)))).trans g2, t, by rw [cut_len (by omega), cut_len (by omega), g4], fun j y n hj hn => ?_⟩
    rw [cut_get (by omega)] at hj hn
    have key : ∀ j' : Nat, hs[j']? = some y → ids[j']? = some n → sgT S' dp (so n) n (sd n) (sg n) ∧ (sg n).length ≤ 100 ∧ n < 1000 ∧ ∃ r, hoT S' y (so n) r (sg n).length (lv n) := fun j' h1 h2 => by
      obtain ⟨b1, b2, b3, r, b4⟩ := g5 j' y n h1 h2
      have ty := tH y (List.mem_of_getElem? h1)
      exact ⟨sgS s n (List.mem_of_getElem? h2) b1, b2, b3, r, hoT_sub s b4 (nF8 (Or.inr (Or.inl ty.1))) (nF8 (Or.inr (Or.inl (ty.2 r b4.2.2.1))))⟩
    by_cases c : j < p
    · rw [if_pos c] at hj hn; exact key j hj hn
    · rw [if_neg c] at hj hn; exact key _ hj hn
  have cnts : ∀ k, k ≤ 3 → sumL (fun n => cntB (lvS n) (sg n).length) (src.take k) ≤ 100 ∧ (∀ n, src[k]? = some n → sumL (fun n => cntB (lvS n) (sg n).length) (src.take k) + cntB (lvS n) (sg n).length ≤ 100) := by
    intro k hk
    have h1 := sumL_app (fun n => cntB (lvS n) (sg n).length) (src.take k) (src.drop k)
    rw [List.take_append_drop] at h1
    refine ⟨by omega, fun n hn => ?_⟩
    have h2 := sumL_drop_s (f := fun n => cntB (lvS n) (sg n).length) hn
    omega
  have lenM : ∀ {f : Nat → Nat → Bool} {k : Nat}, k ≤ 3 → (∀ n i, f n i = true → lvS n i = true) → ((src.take k).flatMap (fun n => selA (f n) 0 (sd n))).length ≤ sumL (fun n => cntB (lvS n) (sg n).length) (src.take k) := by
    intro f k hk hf
    have : ∀ l : List Nat, (∀ n, n ∈ l → n ∈ ids) → (l.flatMap (fun n => selA (f n) 0 (sd n))).length ≤ sumL (fun n => cntB (lvS n) (sg n).length) l := by
      intro l
      induction l with
      | nil => intro _; exact Nat.le_refl _
      | cons n l ih =>
        intro hl
        have h1 := ih (fun n' hn' => hl n' (List.mem_cons_of_mem _ hn'))
        rw [List.flatMap_cons, List.length_append, sumL]
        have hlen2 : (sd n).length = (sg n).length := by
          obtain ⟨j, hj⟩ := List.getElem?_of_mem (hl n (List.mem_cons_self ..))
          obtain ⟨y, hy⟩ := get_ex (l := hs) (k := j) (by have := get_lt hj; omega)
          exact (g5 j y n hy hj).1.2.2.1
        have h2 := selA_len (f := f n) (l := sd n) (k := (sd n).length) (Nat.le_refl _)
        rw [List.take_length, hlen2] at h2
        have h3 := cntB_imp (hf n) (sg n).length
        omega
    exact this _ (fun n hn => srcin n (List.mem_of_mem_take hn))
  unfold k_X10_takeOut
  refine ⟨g1, hl, g2, g3.1, ⟨by omega, by omega⟩, q_lsize g3 ?_⟩
  unfold k_X10_takeOut_12L
  refine lfp_cnt 3 (fun i y => ∃ S' ρ' m1 m2 x4, cSub S S' (fun z => ρ z = 9 ∨ ρ z = 82 ∨ ρ z = 83) ∧ (∀ z, z ∈ cL S → ρ' z = ρ z) ∧ lsT S' dp hl 2 (hs.take p ++ hs.drop (p + i)) m ∧ (∀ z, lsF S' dp hl z → ρ' z = 9) ∧ lsG S' ρ' dp a 82 ((src.take i).flatMap (fun n => selA (lvS n) 0 (sd n))) m1 ∧ lsG S' ρ' dp d 83 ((src.take i).flatMap (fun n => selA (fun j => lvS n j && !lv n j) 0 (sd n))) m2 ∧ (i = 0 → x4 = nI hs.length) ∧ (0 < i → x4 = nI p) ∧ y = (V, M, a, d, x4, nI i, 70 * i, 1400 * i, S')) ?_ ⟨S, ρ, 0, 0, nI hs.length, sub_rf, fun _ _ => rfl, by rw [Nat.add_zero, List.take_append_drop]; exact g3, tL, la, ld, fun _ => rfl, fun h => absurd h (by omega), rfl⟩
  rintro P i _ hi ⟨S', ρ', m1, m2, x4, s, hρ, t', hF, la', ld', x0, x1, rfl⟩ ih
  show k_X10_takeOut_12 Q dp mc ms _ V M a d x4 (nI i) (70 * i) (1400 * i) S'
  have gM' := mkM s
  have gV' := mkV hi s t'
  have B : 70 * i ≤ mc ∧ 1400 * i ≤ ms := ⟨by omega, by omega⟩
  unfold k_X10_takeOut_12
  refine ⟨gM'.1, hlM, gM'.2.1, gM'.2.2.1.1, B, q_lsize gM'.2.2.1 (pk_le hsM.length i (fun z => ?_) (fun z => ?_))⟩
  · obtain rfl : i = 3 := by omega
    rw [List.take_of_length_le (by omega)] at la' ld'
    rw [x1 (by decide)]
    exact ⟨B, hQ S' ρ' m1 m2 s hρ hF gV' la' ld'⟩
  · obtain ⟨y, hy⟩ := get_ex z
    obtain ⟨n, hn⟩ := get_ex (l := src) (k := i) (by omega)
    have hni := hsrc i n hn
    obtain ⟨gs', gN', g1000, r, hoM⟩ := gM'.2.2.2.2 i y n hy hn
    have hidp : (ids.take p ++ ids.drop (p + i))[p]? = some n := by
      rw [cut_get (by omega), if_neg (Nat.lt_irrefl p)]; exact hni
    have ndR : (ids.take p ++ ids.drop (p + i)).Nodup := by
      refine List.Nodup.sublist ?_ hnd
      have h1 : (ids.drop (p + i)).Sublist (ids.drop p) := by
        rw [show ids.drop (p + i) = (ids.drop p).drop i by rw [List.drop_drop]]
        exact List.drop_sublist _ _
      have h2 := (List.Sublist.refl (ids.take p)).append h1
      rw [List.take_append_drop] at h2
      exact h2
    refine ⟨gM'.1, hlM, gM'.2.1, gM'.2.2.1.1, B, q_lget gM'.2.2.1 hy ⟨hoM.1, hoM.1, so n, hoM.2.1, gV'.1, B, q_vplaceOf gV' (vw_inj gV' gs' g1000) (fun k hk _ => ?_) (fun hno => absurd (List.mem_of_getElem? hidp) hno)⟩⟩
    obtain rfl : k = p := (List.getElem?_inj (get_lt hk) ndR).mp (hk.trans hidp.symm)
    have hne : ¬ nI k = (-1 : Int32) := by
      intro e
      have := nI_pos (n := k) (by omega)
      rw [e] at this
      exact this (by decide)
    refine ⟨fun e => absurd e hne, fun _ => ?_⟩
    obtain ⟨y', hy'⟩ := get_ex (l := hs.take k ++ hs.drop (k + i)) (k := k) (by rw [cut_len (by omega)]; omega)
    obtain ⟨gs2, -, -, r', hoV⟩ := gV'.2.2.2.2 k y' n hy' hidp
    have hy'in : y' ∈ hs := by
      rw [cut_get (by omega), if_neg (Nat.lt_irrefl k)] at hy'
      exact List.mem_of_getElem? hy'
    have hyin := List.mem_of_getElem? hy
    have nids := srcin n (List.mem_of_getElem? hn)
    obtain ⟨c1, c2⟩ := cnts i hi
    have c2 := c2 n hn
    have l1 := lenM (f := lvS) hi (fun _ _ h => h)
    have l2 := lenM (f := fun n j => lvS n j && !lv n j) hi (fun _ _ h => (Bool.and_eq_true _ _ ▸ h).1)
    have yS : cA S y 2 := gM.2.2.1.2.2.2.2.2.1 y hyin
    have y'S : cA S y' 2 := g3.2.2.2.2.2.1 y' hy'in
    have ty := tHM y hyin
    have ty' := tH y' hy'in
    have r65 : cr S' 65 y = cr S 65 y := sub_cr s yS (nF8 (Or.inr (Or.inr ty.1)))
    have r65' : cr S' 65 y' = cr S 65 y' := sub_cr s y'S (nF8 (Or.inr (Or.inl ty'.1)))
    have rS : cr S 65 y = some r := r65 ▸ hoM.2.2.1
    have rS' : cr S 65 y' = some r' := r65' ▸ hoV.2.2.1
    obtain ⟨-, -, -, r0, ho0⟩ := gM.2.2.2.2 i y n hy hn
    obtain rfl : r0 = r := Option.some.inj (ho0.2.2.1.symm.trans rS)
    have rin : r0 ∈ cL S := ho0.2.2.2.1.1
    have r'in : r' ∈ cL S := by
      obtain ⟨j, hj⟩ := List.getElem?_of_mem hy'in
      obtain ⟨n2, hn2⟩ := get_ex (l := ids) (k := j) (by have := get_lt hj; omega)
      obtain ⟨-, -, -, r1, ho1⟩ := g5 j y' n2 hj hn2
      obtain rfl : r1 = r' := Option.some.inj (ho1.2.2.1.symm.trans rS')
      exact ho1.2.2.2.1.1
    have sgS0 := (gM.2.2.2.2 i y n hy hn).1
    obtain ⟨tS1, tS2, tS3⟩ := tS n nids
    refine ⟨gV'.1, hl, gV'.2.1, gV'.2.2.1.1, B, q_lget gV'.2.2.1 hy' ⟨hoV.1, hoM.1, 70, 1400, by omega, by omega, ?_⟩⟩
    refine q_gather hoM hoV gs' rfl la' ld' dp_O (by omega) (by omega) (Nat.le_refl _) (Nat.le_refl _) ?_ ?_ ?_
    · have h82 : ∀ {z : Nat}, z ∈ cL S → (ρ z = 8 ∨ ρ z = 10 ∨ ρ z = 11) → ρ' z ≠ 82 ∧ ρ' z ≠ 83 := fun hz h => by rw [hρ _ hz]; omega
      rintro z (rfl | rfl | rfl | rfl | rfl | hz)
      · exact h82 yS.1 (Or.inr (Or.inr ty.1))
      · exact h82 rin (Or.inr (Or.inr (ty.2 _ rS)))
      · exact h82 y'S.1 (Or.inr (Or.inl ty'.1))
      · exact h82 r'in (Or.inr (Or.inl (ty'.2 _ rS')))
      · exact h82 sgS0.1.1 (Or.inl tS1)
      · obtain ⟨j, hj⟩ := List.getElem?_of_mem hz
        obtain ⟨D', hD'⟩ := get_ex (l := sg n) (k := j) (by have := get_lt hj; have := sgS0.2.2.1; omega)
        exact h82 (sgS0.2.2.2.2 j z D' hj hD').1.1 (Or.inl (tS2 z hz))
    · intro b z hb hz
      obtain ⟨-, -, -, ⟨dl, md, s4, s5⟩, -⟩ := id sgS0
      have e1 : cr S' 257 (so n) = cr S 257 (so n) := sub_cr s sgS0.1 (nF8 (Or.inl tS1))
      rw [e1, s4] at hb
      obtain rfl := Option.some.inj hb
      have hz' : lsF S dp dl z := by
        unfold lsF at hz ⊢
        rw [sub_cr s s5.1 (nF8 (Or.inl (tS3 dl dl s4 (Or.inl rfl))))] at hz; exact hz
      rw [hρ z (lsF_in s5 hz')]
      have := tS3 dl z s4 hz'
      omega
    · intro T ρ2 m1' m2' sT hρT laT ldT
      have sST : cSub S T (fun z => ρ z = 9 ∨ ρ z = 82 ∨ ρ z = 83) := sub_tr s sT (fun z hz w => Or.inr (w.imp (fun u => (hρ z hz).symm.trans u) (fun u => (hρ z hz).symm.trans u)))
      have nT : ∀ z, lsF S' dp hl z → ¬ (ρ' z = 82 ∨ ρ' z = 83) := fun z hz w => by
        have := hF z hz
        omega
      have tT := lsT_sub sT t' nT
      have gVT := mkV hi sST tT
      refine ⟨gVT.1, hl, gVT.2.1, gVT.2.2.1.1, ⟨by omega, by omega⟩, q_lremove tT hy' (fun U v u => ⟨⟨by omega, by omega⟩, ?_⟩)⟩
      rw [cut_era (by omega)] at u
      have hFT : ∀ z, lsF T dp hl z → ρ2 z = 9 := fun z hz => by
        have hz' : lsF S' dp hl z := by
          unfold lsF at hz ⊢
          rw [sub_cr sT t'.1 (nT hl (Or.inl rfl))] at hz; exact hz
        rw [hρT z (lsF_in t' hz')]
        exact hF z hz'
      have hρ2 : ∀ z, z ∈ cL S → ρ2 z = ρ z := fun z hz => (hρT z (s z hz).1.1).trans (hρ z hz)
      have sSU : cSub S U (fun z => ρ z = 9 ∨ ρ z = 82 ∨ ρ z = 83) := sub_tr sST v.1 (fun z hz w => Or.inl ((hρ2 z hz).symm.trans (hFT z w)))
      have tk : src.take (i + 1) = src.take i ++ [n] := by rw [List.take_succ, hn]; rfl
      have nU : ∀ z, ρ2 z = 82 ∨ ρ2 z = 83 → ¬ lsF T dp hl z := fun z hz w => by
        have := hFT z w
        omega
      have x4e : (if nI k < x4 then nI k else x4) = nI k := by
        rcases Nat.eq_zero_or_pos i with e | e
        · rw [x0 e, if_pos ((nI_ltI (by omega) (by omega)).mpr (by omega))]
        · rw [x1 e]; split <;> rfl
      rw [x4e]
      rintro _ rfl
      unfold k_X10_takeOut_93
      rintro _ rfl
      rw [nI_add]
      refine ih _ (by omega) ⟨U, rtg T id ρ2 9, m1', m2', nI k, sSU, fun z hz => (rtg_o (sST z hz).1.1).trans (hρ2 z hz), u, fun z hz => ?_, ?_, ?_, fun h => absurd h (by omega), fun _ => rfl, ?_⟩
      · rcases v.2 z hz with w | w
        · exact (rtg_o (lsF_in tT w)).trans (hFT z w)
        · exact rtg_n w
      · rw [tk, List.flatMap_append, List.flatMap_singleton]
        exact lsG_sub (ρ := ρ2) v.1 (fun _ h => rtg_o h) laT (fun z hz => nU z (Or.inl hz))
      · rw [tk, List.flatMap_append, List.flatMap_singleton]
        exact lsG_sub (ρ := ρ2) v.1 (fun _ h => rtg_o h) ldT (fun z hz => nU z (Or.inr hz))
      · rw [Nat.mul_succ, Nat.mul_succ]
end TAK
