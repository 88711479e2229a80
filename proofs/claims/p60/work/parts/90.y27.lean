/-! views: copies, files -/
theorem sgT_sub {S T : cS} {dp A n : Nat} {ds : List Nat} {L : List Dc} {F : Nat → Prop} (s : cSub S T F) (g : sgT S dp A n ds L) (hA : ¬ F A) (hl : ∀ dl z, cr S 257 A = some dl → lsF S dp dl z → ¬ F z) (hD : ∀ D, D ∈ ds → ¬ F D) : sgT T dp A n ds L := by
  obtain ⟨a1, a2, a3, ⟨dl, md, a4, a5⟩, a6⟩ := g
  exact ⟨sub_A1 s a1, (sub_ci s a1 hA).trans a2, a3, ⟨dl, md, (sub_cr s a1 hA).trans a4, lsT_sub s a5 (fun z hz => hl dl z a4 hz)⟩, fun i D d h1 h2 => by
    obtain ⟨d1, d2, d3⟩ := a6 i D d h1 h2
    exact ⟨sub_A1 s d1, (sub_ci s d1 (hD D (List.mem_of_getElem? h1))).trans d2, d3⟩⟩
/-- all cells of a view are new -/
def vwN (S T : cS) (dp V hl : Nat) (hs : List Nat) : Prop := V ∉ cL S ∧ (∀ z, lsF T dp hl z → z ∉ cL S) ∧ (∀ (i y : Nat), hs[i]? = some y → y ∉ cL S ∧ ∀ r, cr T 65 y = some r → r ∉ cL S) ∧ ∀ (i j y z r : Nat), hs[i]? = some y → hs[j]? = some z → cr T 65 y = some r → cr T 65 z = some r → i = j
section VC
variable {S T : cS} {dp V hl m : Nat} {so : Nat → Nat} {sd : Nat → List Nat} {sg : Nat → List Dc} {hs ids : List Nat} {lv : Nat → Nat → Bool}
theorem vwT_sub0 (s : cSub S T (fun _ => False)) (g : vwT S dp so sd sg V hl m hs ids lv) : vwT T dp so sd sg V hl m hs ids lv := by
  have n : ¬ False := fun z => z
  obtain ⟨g1, g2, g3, g4, g5⟩ := g
  refine ⟨sub_A1 s g1, (sub_cr s g1 n).trans g2, lsT_sub s g3 (fun _ _ => n), g4, fun i h k hi hk => ?_⟩
  obtain ⟨a, b, c, r, d⟩ := g5 i h k hi hk
  exact ⟨sgT_sub s a n (fun _ _ _ _ => n) (fun _ _ => n), b, c, r, hoT_sub s d n n⟩
theorem q_vinit {Q : cS → Prop} {q mc ms : Nat} {x : Int32} (hq : cA S q 10) (hdp : dpO dp S) (hc : 1 ≤ mc) (hs : 3 ≤ ms) (h : ∀ T l, cSub S T (fun z => z = q) → ci T 320 q = x → l ∉ cL S → vwT T dp so sd sg q l 0 [] [] lv → Q T) : k_X10_init Q dp mc ms q x S := by
  unfold k_X10_init
  refine ⟨⟨by omega, by omega⟩, fun l hl S2 e2 => ⟨⟨by omega, by omega⟩, ?_⟩⟩
  have s2 : cSub S S2 (fun z => z = q) := e2 ▸ sub_N hl
  have lA : cA S2 l 12 := ⟨hm_No e2, hk_No e2⟩
  refine q_linit (kk := 2) lA dp_O (Or.inr (Or.inl rfl)) (fun S3 s3 hT => ?_)
  have t3 := hT (hi_No e2)
  have s3' : cSub S S3 (fun z => z = q) := sub_tr s2 s3 (fun a ha z => absurd z (cm_nq hl ha))
  refine ⟨sub_A1 s3' hq, fun S4 e4 => ?_⟩
  have nl : ∀ z, lsF S3 dp l z → ¬ z = q := by
    intro z hz e
    subst e
    have q3 := sub_A1 s3' hq
    obtain ⟨l1, -, -, -, -, -, b, hb, hx⟩ := t3
    rcases hz with y | ⟨y, y2⟩
    · exact cA_ne q3 l1 (by decide) y
    · obtain rfl : b = z := Option.some.inj (hb.symm.trans y)
      rcases hx with hx | hx
      · exact y2 hx.1
      · exact cA_ne hx.2.2.1 q3 (by decide) rfl
  have s4 : cSub S3 S4 (fun z => z = q) := e4 ▸ sub_Sr rfl
  have s4' := sub_tr s3' s4 (fun _ _ z => z)
  refine ⟨sub_A1 s4' hq, fun S5 e5 => ⟨⟨by omega, by omega⟩, ?_⟩⟩
  have s5 : cSub S4 S5 (fun z => z = q) := e5 ▸ sub_Si rfl
  have s45 := sub_tr s4 s5 (fun _ _ z => z)
  have t5 := lsT_sub s45 t3 nl
  exact h S5 l (sub_tr s4' s5 (fun _ _ z => z)) (hi_Si_s e5) hl ⟨sub_A1 s5 (sub_A1 s4' hq), hr_Si e5 (hr_Sr_s e4), t5, rfl, fun i y n hi => absurd (get_lt hi) (Nat.not_lt_zero i)⟩
set_option maxHeartbeats 2000000 in
theorem q_vcopy {Q : Nat → cS → Prop} {from_ cnt mc ms : Nat} (g : vwT S dp so sd sg V hl m hs ids lv) (hdp : dpO dp S) (hfc : from_ + cnt ≤ ids.length) (hid : ids.length ≤ 300) (hc : 3 * cnt + 4 ≤ mc) (hms : 45 + 8 * cnt + sumL (fun n => (sg n).length) ((ids.drop from_).take cnt) ≤ ms) (h : ∀ T V' hl' m' hs', 2 * m' ≤ 20 + 3 * cnt → cSub S T (fun _ => False) → vwN S T dp V' hl' hs' → vwT T dp so sd sg V' hl' m' hs' ((ids.drop from_).take cnt) lv → Q V' T) : k_X10_copyOf Q dp mc ms V (nI from_) (nI cnt) S := by
  have hlen := vw_len g
  unfold k_X10_copyOf
  refine ⟨⟨by omega, by omega⟩, fun q hq S2 e2 => ⟨1, 3, by omega, by omega, ?_⟩⟩
  have s2 : cSub S S2 (fun _ => False) := e2 ▸ sub_N hq
  have qA : cA S2 q 10 := ⟨hm_No e2, hk_No e2⟩
  refine q_vinit (so := so) (sd := sd) (sg := sg) (lv := lv) qA dp_O (Nat.le_refl _) (Nat.le_refl _) (fun S5 l s5 _ hl5 g5 => ⟨⟨by omega, by omega⟩, ?_⟩)
  have s25 : cSub S S5 (fun _ => False) := sub_tr s2 s5 (fun a ha z => absurd z (cm_nq hq ha))
  have hlS : l ∉ cL S := fun z => hl5 (s2 l z).1.1
  rw [if_neg (fun z => absurd ((nI_ltI (by omega) (by decide)).mp z) (by omega))]
  rintro _ rfl
  unfold k_X10_copyOf_16L
  have split : ∀ k, k ≤ cnt → sumL (fun n => (sg n).length) ((ids.drop from_).take k) ≤ sumL (fun n => (sg n).length) ((ids.drop from_).take cnt) := by
    intro k hk
    have : (ids.drop from_).take cnt = ((ids.drop from_).take k) ++ (((ids.drop from_).take cnt).drop k) := by
      have h1 := (List.take_append_drop k ((ids.drop from_).take cnt)).symm
      rw [List.take_take, Nat.min_eq_left hk] at h1
      exact h1
    rw [this, sumL_app]; omega
  refine lfp_cnt cnt (fun k y => ∃ S' m' hs' cd dd, cSub S S' (fun _ => False) ∧ vwN S S' dp q l hs' ∧ vwT S' dp so sd sg q l m' hs' ((ids.drop from_).take k) lv ∧ (m' = 0 ∨ 10 ≤ m') ∧ 2 * m' ≤ 20 + 3 * k ∧ cd ≤ 2 + 2 * k + m' / 5 ∧ dd ≤ 5 + 2 * k + sumL (fun n => (sg n).length) ((ids.drop from_).take k) + 4 * m' ∧ y = (V, nI from_, nI cnt, q, nI (from_ + k), cd, dd, S')) ?_ ⟨S5, 0, [], 0 + 1 + 1, 0 + 2 + 3, s25, ⟨hq, fun z hz => ?_, fun i y hi => absurd (get_lt hi) (Nat.not_lt_zero i), fun i j y z r hi => absurd (get_lt hi) (Nat.not_lt_zero i)⟩, g5, Or.inl rfl, by omega, by omega, by show 5 ≤ 5 + 0 + 0 + 0; omega, rfl⟩
  · rintro P k _ hk ⟨S', m', hs', cd, dd, s', hN, g', hm10, hm, hcd, hdd, rfl⟩ ih
    show k_X10_copyOf_16 Q dp mc ms _ V (nI from_) (nI cnt) q (nI (from_ + k)) cd dd S'
    have hsp := split k hk
    have gV := vwT_sub0 s' g
    have hlk : ((ids.drop from_).take k).length = k := by rw [List.length_take, List.length_drop]; omega
    have hsl : hs'.length = k := by rw [(vw_len g').1, hlk]
    obtain ⟨g1, g2, g3, g4, g5'⟩ := gV
    have B1 : cd ≤ mc := by omega
    have B2 : dd ≤ ms := by omega
    unfold k_X10_copyOf_16
    rw [nI_add]
    refine pk_le (from_ + cnt) (from_ + k) (fun z => ?_) (fun z => ⟨g1, hl, g2, g3.1, ⟨B1, B2⟩, q_lsize g3 (pk_le hs.length (from_ + k) (fun z2 => absurd z2 (by omega)) (fun z2 => ?_))⟩)
    · obtain rfl : k = cnt := by omega
      exact ⟨⟨B1, B2⟩, h S' q l m' hs' hm s' hN g'⟩
    · obtain ⟨y, hy⟩ := get_ex z2
      obtain ⟨n, hn⟩ := get_ex (l := ids) (k := from_ + k) (by omega)
      obtain ⟨gs, gN, g1000, r, go⟩ := g5' _ y n hy hn
      have hnk : (ids.drop from_)[k]? = some n := by rw [List.getElem?_drop]; exact hn
      have htk : (ids.drop from_).take (k + 1) = (ids.drop from_).take k ++ [n] := by rw [List.take_succ, hnk]; rfl
      have hss : sumL (fun n => (sg n).length) ((ids.drop from_).take (k + 1)) = sumL (fun n => (sg n).length) ((ids.drop from_).take k) + ((sg n).length + 0) := by
        rw [htk, sumL_app]; rfl
      have hsp1 := split (k + 1) (by omega)
      obtain ⟨y1, y2, y3⟩ := gwL_le (m := m') (n := hs'.length) (W := k) g'.2.2.1.2.2.1 hm (by omega)
      have y3 := y3 hm10
      refine ⟨g'.1, l, g'.2.1, g1, hl, g2, g3.1, ⟨B1, B2⟩, q_lget g3 hy ⟨go.1, go.1, 2, 2 + (sg n).length, by omega, by omega, q_hoCopy go gs rfl (Nat.le_refl _) (Nat.le_refl _) (fun T c r' sT hcT hrT gT => ?_)⟩⟩
      have g'T := vwT_sub0 sT g'
      refine ⟨g'T.2.2.1.1, (if hs'.length = m' then 1 else 0), (if hs'.length = m' then gwL m' m' else 0), by omega, by omega, q_ladd dp_O g'T.2.2.1 (by omega) gT.1 (Nat.le_refl _) (Nat.le_refl _) (fun U v u => ?_)⟩
      rintro _ rfl
      rw [nI_add, Nat.add_assoc]
      have ocL : ∀ {z : Nat}, z ∈ cL S' → z ≠ c ∧ z ≠ r' := fun hz => ⟨cm_nq hcT hz, cm_nq hrT hz⟩
      have lF' : ∀ z, lsF T dp l z → lsF S' dp l z := fun z hz => by
        unfold lsF at hz ⊢
        rw [sub_cr sT g'.2.2.1.1 (fun w => w)] at hz; exact hz
      have nF : ∀ {a kk : Nat}, cA T a kk → kk ≠ 12 → kk ≠ 17 → ¬ lsF T dp l a := by
        intro a kk ha h12 h17 hz
        obtain ⟨l1, -, -, -, -, -, b, hb, hx⟩ := g'T.2.2.1
        rcases hz with w | ⟨w, w2⟩
        · exact cA_ne ha l1 h12 w
        · obtain rfl : b = a := Option.some.inj (hb.symm.trans w)
          rcases hx with hx | hx
          · exact w2 hx.1
          · exact cA_ne hx.2.2.1 ha (Ne.symm h17) rfl
      have nS : ∀ {a : Nat}, a ∈ cL S → ¬ lsF T dp l a := fun ha hz => hN.2.1 _ (lF' _ hz) ha
      have sU : cSub S U (fun _ => False) := sub_tr (sub_tr s' sT (fun _ _ w => w)) v.1 (fun a ha w => nS ha w)
      have hoU : ∀ {h' A' r'' N' : Nat} {lv' : Nat → Bool}, hoT T h' A' r'' N' lv' → hoT U h' A' r'' N' lv' := fun w => hoT_sub v.1 w (nF w.1 (by decide) (by decide)) (nF w.2.2.2.1 (by decide) (by decide))
      have sgU : ∀ (i' y' n' : Nat), hs[i']? = some y' → ids[i']? = some n' → sgT U dp (so n') n' (sd n') (sg n') := fun i' y' n' h1 h2 => sgT_sub sU (g.2.2.2.2 i' y' n' h1 h2).1 (fun w => w) (fun _ _ _ _ w => w) (fun _ _ w => w)
      have r65 : ∀ {a : Nat}, cA T a 2 → cr U 65 a = cr T 65 a := fun ha => sub_cr v.1 ha (nF ha (by decide) (by decide))
      have r65' : ∀ {a : Nat}, cA S' a 2 → cr T 65 a = cr S' 65 a := fun ha => sub_cr sT ha (fun w => w)
      have hcU : cr U 65 c = some r' := (r65 gT.1).trans gT.2.2.1
      have old : ∀ {i y : Nat}, hs'[i]? = some y → cA S' y 2 ∧ cr U 65 y = cr S' 65 y ∧ ∀ r, cr S' 65 y = some r → r ∈ cL S' := fun {i y} hi => by
        obtain ⟨n', hn'⟩ := get_ex (l := (ids.drop from_).take k) (k := i) (by have := get_lt hi; omega)
        obtain ⟨-, -, -, r, ho⟩ := g'.2.2.2.2 i y n' hi hn'
        refine ⟨ho.1, (r65 (sub_A1 sT ho.1)).trans (r65' ho.1), fun r2 hr2 => ?_⟩
        obtain rfl : r = r2 := Option.some.inj (ho.2.2.1.symm.trans hr2)
        exact ho.2.2.2.1.1
      refine ih _ (by omega) ⟨U, _, _, _, _, sU, ⟨hN.1, fun z hz => ?_, fun i' y' hi' => ?_, fun i' j' y' z' r2 hi' hj' h1 h2 => ?_⟩, ⟨?_, ?_, u, ?_, fun i' y' n' hi' hn' => ?_⟩, ?_, by omega, by omega, by omega, rfl⟩
      · rcases v.2 z hz with w | w
        · exact hN.2.1 z (lF' z w)
        · exact fun w2 => w (sT z (s' z w2).1.1).1.1
      · rcases app1_get.mp hi' with w | ⟨w1, w2⟩
        · obtain ⟨o1, o2, o3⟩ := old w
          refine ⟨(hN.2.2.1 i' y' w).1, fun r2 hr2 => ?_⟩
          rw [o2] at hr2
          exact (hN.2.2.1 i' y' w).2 r2 hr2
        · subst w2
          refine ⟨fun w => hcT (s' _ w).1.1, fun r2 hr2 => ?_⟩
          rw [hcU] at hr2
          exact fun w => hrT (Option.some.inj hr2 ▸ (s' _ w).1.1)
      · rcases app1_get.mp hi' with w | ⟨w1, w2⟩
        · obtain ⟨o1, o2, o3⟩ := old w
          rw [o2] at h1
          rcases app1_get.mp hj' with x | ⟨x1, x2⟩
          · obtain ⟨p1, p2, p3⟩ := old x
            rw [p2] at h2
            exact hN.2.2.2 i' j' y' z' r2 w x h1 h2
          · subst x2
            rw [hcU] at h2
            exact absurd (Option.some.inj h2 ▸ o3 r2 h1) hrT
        · subst w2
          rw [hcU] at h1
          rcases app1_get.mp hj' with x | ⟨x1, x2⟩
          · obtain ⟨p1, p2, p3⟩ := old x
            rw [p2] at h2
            exact absurd (Option.some.inj h1 ▸ p3 r2 h2) hrT
          · omega
      · exact sub_A1 v.1 g'T.1
      · exact (sub_cr v.1 g'T.1 (nF g'T.1 (by decide) (by decide))).trans g'T.2.1
      · rw [List.length_append, hsl, htk, List.length_append, hlk]; rfl
      · rw [htk] at hn'
        rcases app1_get.mp hi' with w | ⟨w1, w2⟩
        · have hn2 : ((ids.drop from_).take k)[i']? = some n' := by
            have := get_lt w
            rcases app1_get.mp hn' with x | ⟨x1, -⟩
            · exact x
            · omega
          obtain ⟨-, a2, a3, r2, a4⟩ := g'T.2.2.2.2 i' y' n' w hn2
          have hik : i' < k := by have := get_lt w; omega
          have hn3 : ids[from_ + i']? = some n' := by
            rw [List.getElem?_take_of_lt hik, List.getElem?_drop] at hn2; exact hn2
          obtain ⟨y2, hy2⟩ := get_ex (l := hs) (k := from_ + i') (by have := get_lt hn3; omega)
          exact ⟨sgU _ y2 n' hy2 hn3, a2, a3, r2, hoU a4⟩
        · subst w2
          obtain rfl : n = n' := by
            rcases app1_get.mp hn' with x | ⟨x1, x2⟩
            · have := get_lt x; omega
            · exact x2.symm
          exact ⟨sgU _ y n hy hn, gN, g1000, r', hoU gT⟩
      · unfold gwL
        split
        · split <;> omega
        · exact hm10
  · rcases hz with w | ⟨w, w2⟩
    · rw [w]; exact hlS
    · obtain ⟨-, -, l3, -⟩ := g5
      obtain ⟨-, -, -, -, -, -, b, hb, hx⟩ := l3
      obtain rfl : b = z := Option.some.inj (hb.symm.trans w)
      rcases hx with hx | hx
      · exact absurd hx.1 w2
      · omega
end VC
