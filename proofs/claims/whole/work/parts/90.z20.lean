/-! the reference: matches, facets -/
section MA
variable {v v' : Nat → Int32} {f f' : Nat → Nat → Int32} {g g' : Nat → Nat → Int64} {l : LGt} {made dn : Nat} {sg : Nat → List Dc} {hd : Nat → Nat → Nat} {sl : Nat → Option (Nat × Vw)} {a k q m w0 w1 : Nat} {s : Vw} {nd : Nat → Nd} {rr : Nat → Nat} {qs : List (Nat × (Nat → Nd))}
/-- a category, or none -/
def caO : Option Nat → Int32
  | none => -1
  | some c => nI c
def caB (sg : Nat → List Dc) (co : Option Nat) (y : Nat × Nat) : Bool := match co with
  | none => true
  | some c => catB sg c y
/-- how many match, of a category -/
noncomputable def maN (sg : Nat → List Dc) (s : Vw) (e : Nat × (Nat → Nd)) (co : Option Nat) : Nat := sumL (fun y => if (caB sg co y && mtB e (sg y.1) y.2) = true then 1 else 0) (mtL sg s.2 s.1)
theorem maN_all {e : Nat × (Nat → Nd)} : maN sg s e none = (mtQ sg s e).length := by
  unfold maN mtQ
  rw [mtL_cnt, mtL_sum]
  rfl
theorem sumL_map {α β : Type} {F : β → Nat} {G : α → β} : ∀ L : List α, sumL F (L.map G) = sumL (fun a => F (G a)) L
  | [] => rfl
  | a :: L => by
    show F (G a) + sumL F (L.map G) = F (G a) + _
    rw [sumL_map L]
theorem sumL_ext {α : Type} {F G : α → Nat} : ∀ {L : List α}, (∀ a, a ∈ L → F a = G a) → sumL F L = sumL G L
  | [], _ => rfl
  | a :: L, h => by
    show F a + sumL F L = G a + sumL G L
    rw [h a List.mem_cons_self, sumL_ext (fun b hb => h b (List.mem_cons_of_mem _ hb))]
theorem maN_cat {e : Nat × (Nat → Nd)} {c : Nat} : maN sg s e (some c) = sumL (fun d => if dC d = c then 1 else 0) ((mtQ sg s e).map (fun y => (sg y.1).getD y.2 ((0, 0, 0), [], []))) := by
  rw [sumL_map]
  have e1 : sumL (fun y => if dC ((sg y.1).getD y.2 ((0, 0, 0), [], [])) = c then 1 else 0) (mtQ sg s e) = sumL (fun y => if catB sg c y = true then 1 else 0) (mtQ sg s e) := by
    refine sumL_ext (fun y hy => ?_)
    unfold mtQ at hy
    obtain ⟨-, a2, -⟩ := mtL_mem hy
    obtain ⟨d, hd'⟩ := get_ex (l := sg y.1) (k := y.2) a2
    unfold catB
    rw [List.getD_eq_getElem?_getD, hd']
    show (if dC d = c then 1 else 0) = if (dC d == c) = true then 1 else 0
    by_cases z : dC d = c
    · rw [if_pos z, if_pos (by simpa using z)]
    · rw [if_neg z, if_neg (by simpa using z)]
  rw [e1]
  unfold maN mtQ
  rw [mtL_sum, mtL_sum]
  refine sumL_ext (fun n _ => cntB_ext (fun j _ => ?_))
  show (s.2 n j && (catB sg c (n, j) && mtB e (sg n) j)) = (s.2 n j && mtB e (sg n) j && catB sg c (n, j))
  cases s.2 n j <;> cases catB sg c (n, j) <;> cases mtB e (sg n) j <;> rfl
theorem p_matching {Q : QI} {co : Option Nat} {e : Nat × (Nat → Nd)} (hco : ∀ c, co = some c → c < 10) (hl : rLg v g l) (hS : scW l) (hpw : mPow g) (hs : rSg l v f g made dn sg hd) (hk : rLk f made sg sl) (ha : a < 5) (hsl : sl a = some (k, s)) (hT : allN sg s.2 s.1 ≤ 600) (hq : rQl v f g qs) (hG : qrG qs) (he : qs[q]? = some e) (h0 : f 49 0 = nI w0) (h1 : f 49 1 = nI w1) (hw : w0 ≤ 9 ∧ w1 ≤ 9) (h : ∀ v' f', (∀ i, i ≠ 60 → v' i = v i) → (∀ n, n ∉ [38, 52, 53, 54, 55, 56] → f' n = f n) → Q (nI (maN sg s e co)) v' f' g) : r_matching Q (nI a) (nI q) (caO co) v f g := by
  unfold r_matching
  refine p_ready hl hS hpw hs hk ha hsl hT hq hG he h0 h1 hw (fun v1 f1 b1 b2 b3 b4 b5 => ?_)
  obtain ⟨T, hTT⟩ : ∃ T, T = mtL sg s.2 s.1 := ⟨_, rfl⟩
  obtain ⟨v60, T6, v38⟩ := id b3
  obtain ⟨F, hF⟩ : ∃ F : Nat × Nat → Nat, F = fun y => if (caB sg co y && mtB e (sg y.1) y.2) = true then 1 else 0 := ⟨_, rfl⟩
  have hfin : maN sg s e co = sumL F T := by rw [hF, hTT]; rfl
  rw [hfin] at h
  have hmem : ∀ y, y ∈ T → _ := fun y hy => rSg_at (s := s) b4.2.1 (hid_of hk ha hsl) (by rw [← hTT]; exact hy)
  rw [← hTT] at v60 T6 v38
  unfold r_matching_12L
  refine lfp_cnt T.length (fun i z => ∃ f2, rS3 f1 f2 ∧ z = (nI q, caO co, nI (sumL F (T.take i)), nI i, v1, f2, g)) ?_ ⟨f1, fun _ _ _ _ => rfl, rfl⟩
  rintro P i _ hi ⟨f2, s2, rfl⟩ ih
  show r_matching_12 Q _ (nI q) (caO co) (nI (sumL F (T.take i))) (nI i) v1 f2 g
  unfold r_matching_12
  rw [v60]
  refine pk_le T.length i (fun z => ?_) (fun z => ?_)
  · obtain rfl : i = T.length := by omega
    rw [List.take_length]
    exact h v1 f2 b1 (fun n hn => (s2 n (fun e => hn (by rw [e]; decide)) (fun e => hn (by rw [e]; decide)) (fun e => hn (by rw [e]; decide))).trans (b2 n (fun w => hn (by revert w; simp; omega))))
  obtain ⟨y, hy⟩ := get_ex (l := T) (k := i) z
  have hyT := List.mem_of_getElem? hy
  obtain ⟨d, hd', ⟨-, ⟨c1, c2⟩, -⟩, hlt⟩ := hmem y hyT
  have e38 : f2 38 i = nI (hd y.1 y.2) := by rw [s2 38 (by decide) (by decide) (by decide)]; exact v38 i y hy
  have iin : vp_in (nI i) 2424 := pk_in i 2424 (by omega)
  have ic : (nI i).toNatClampNeg = i := nI_clamp (by omega)
  have st := sumL_takeG (f := F) hy
  have add : ∀ (f3 : Nat → Nat → Int32) (x : Nat), rS3 f1 f3 → F y = x → r_matching_65 Q (fun b0 b1 b2 b3 v f g => P (b0, b1, b2, b3, v, f, g)) (nI q) (caO co) (nI i) (nI x) (nI (sumL F (T.take i))) v1 f3 g := by
    intro f3 x s3 hx
    unfold r_matching_65
    rintro _ rfl _ rfl
    rw [nI_add, nI_add]
    exact ih _ z ⟨f3, s3, by rw [st, hx]⟩
  have give : caB sg co y = true → r_matching_44 Q (fun b0 b1 b2 b3 v f g => P (b0, b1, b2, b3, v, f, g)) (nI q) (caO co) (nI i) (nI (sumL F (T.take i))) v1 f2 g := by
    intro hcb
    have Fy : F y = if (vlN e.2 e.1 w0 w1 (rrL e.2 e.1 sg s.2 s.1) (sg y.1) y.2).isSome = true then 1 else 0 := by
      rw [hF, vl_some]
      show (if (caB sg co y && mtB e (sg y.1) y.2) = true then 1 else 0) = _
      rw [hcb, Bool.true_and]
    unfold r_matching_44
    rw [ic, e38]
    refine ⟨iin, p_give1 (rFc_fr (fun _ _ => rfl) (fdF_S3 s2) b4) b5 (by rw [← hTT]; exact hyT) (fun f3 s3 vB => ?_)⟩
    refine (w_ci vB (fun r hr => add f3 1 (rS3_tr s2 s3) (by rw [Fy, hr]; rfl)) (fun hr => ?_)).symm
    unfold r_matching_64
    exact add f3 0 (rS3_tr s2 s3) (by rw [Fy, hr]; rfl)
  cases co with
  | none =>
    exact ⟨fun _ => give rfl, fun w => absurd rfl w⟩
  | some c =>
    have c10 := hco c rfl
    refine ⟨fun w => absurd w (fun w => ?_), fun _ => ⟨iin, ?_⟩⟩
    · have := nI_pos (n := c) (by omega)
      rw [show nI c = (-1 : Int32) from w] at this
      exact absurd (by decide) this
    have cb : caB sg (some c) y = (dC d == c) := by
      show catB sg c y = _
      unfold catB
      rw [hd']
    rw [ic, e38, nI_clamp (show hd y.1 y.2 < 2 ^ 31 by omega), s2 15 (by decide) (by decide) (by decide)]
    have e15 : f1 15 (hd y.1 y.2) = nI (dC d) := by rw [b2 15 (by decide)]; exact (by
      have := (rSg_at (s := s) hs (hid_of hk ha hsl) (by rw [← hTT]; exact hyT))
      obtain ⟨d2, hd2, ⟨-, ⟨z1, -⟩, -⟩, -⟩ := this
      rw [hd'] at hd2
      rw [Option.some.inj hd2]; exact z1)
    rw [e15]
    refine ⟨pk_in (hd y.1 y.2) 2424 (by omega), w_ne (dC d) c (fun z2 => ?_) (fun z2 => give ?_)⟩
    · unfold r_matching_64
      refine add f2 0 s2 ?_
      rw [hF]
      show (if (caB sg (some c) y && mtB e (sg y.1) y.2) = true then 1 else 0) = 0
      rw [cb, show (dC d == c) = false by simpa using z2]; rfl
    · rw [cb]; simpa using z2
theorem p_matchesAt {Q : QI} {x y : Int32} {co : Option Nat} {r3 : Bool} (hco : r3 = true → ∀ c, co = some c → c < 10) (hl : rLg v g l) (hS : scW l) (hpw : mPow g) (hs : rSg l v f g made dn sg hd) (hk : rLk f made sg sl) (hT : ∀ a s, a < 5 → sl a = some s → allN sg s.2.2 s.2.1 ≤ 600) (hq : rQl v f g qs) (hG : qrG qs) (h0 : f 49 0 = nI w0) (h1 : f 49 1 = nI w1) (hw : w0 ≤ 9 ∧ w1 ≤ 9) (h : ∀ a s q e, isA sl qs x y a s q e → r3 = true → ∀ v' f', rdO v v' f f' → Q (nI (maN sg s.2 e co)) v' f' g) {t : Int32} (ht : r3 = true → t = caO co) : ∀ a s q e, isA sl qs x y a s q e → r3 = true → r_matching Q (nI a) y t (upd v 99 (nI 0)) f g := by
  intro a s q e hA hr
  have h := h a s q e hA hr
  obtain ⟨a5, hsl, ex, he, ey⟩ := hA
  obtain ⟨v1, hv1⟩ : ∃ v1, v1 = upd v 99 (nI 0) := ⟨_, rfl⟩
  rw [← hv1, ey, ht hr]
  have v1o : ∀ i, i ≠ 99 → v1 i = v i := fun i hi => by rw [hv1, upd_n hi]
  have v199 : v1 99 = nI 0 := by rw [hv1]; exact upd_at
  have hs1 : rSg l v1 f g made dn sg hd := by
    unfold rSg
    rw [v1o 29 (by decide), v1o 26 (by decide)]; exact hs
  exact p_matching (k := s.1) (s := s.2) (hco hr) (rLg_fr (v1o 9 (by decide)) (v1o 6 (by decide)) rfl rfl rfl hl) hS hpw hs1 hk a5 hsl (hT a s a5 hsl) (rQl_56 (v1o 73 (by decide)) (fun _ _ _ => rfl) hq) hG he h0 h1 hw (fun v2 f2 b1 b2 => h v2 f2 ⟨fun i hi => (b1 i (fun e => hi (by rw [e]; decide))).trans (v1o i (fun e => hi (by rw [e]; decide))), (b1 99 (by decide)).trans v199, b2⟩)
theorem p_matches {Q : QI} {x y : Int32} (hl : rLg v g l) (hS : scW l) (hpw : mPow g) (hs : rSg l v f g made dn sg hd) (hk : rLk f made sg sl) (hT : ∀ a s, a < 5 → sl a = some s → allN sg s.2.2 s.2.1 ≤ 600) (hq : rQl v f g qs) (hG : qrG qs) (h0 : f 49 0 = nI w0) (h1 : f 49 1 = nI w1) (hw : w0 ≤ 9 ∧ w1 ≤ 9) (hX : nAsk sl qs x y → Q (nI 0) (upd v 99 (nI 1)) f g) (h : ∀ a s q e, isA sl qs x y a s q e → ∀ v' f', rdO v v' f f' → Q (nI (mtQ sg s.2 e).length) v' f' g) : r_matches Q x y v f g := by
  have key := p_matchesAt (Q := Q) (x := x) (y := y) (co := none) (r3 := true) (t := -1) (fun _ c hc => absurd hc (by simp)) hl hS hpw hs hk hT hq hG h0 h1 hw (fun a s q e hA _ v' f' ho => by rw [maN_all]; exact h a s q e hA v' f' ho) (fun _ => rfl)
  unfold r_matches
  refine p_slotAsk hk hq (fun r hno => p_goes (b1 := false) (b2 := true) (b3 := true) ⟨fun _ => hX hno, fun w => absurd rfl w⟩) (fun a s q e hA => p_goes (b1 := true) (b2 := true) (b3 := true) ⟨fun w => absurd w (by decide), fun _ => key a s q e hA rfl⟩)
theorem p_matchesByScan {Q : QI} {x y : Int32} (h : r_matches Q x y v f g) : r_matchesByScan Q x y v f g := h
theorem p_facet {Q : QI} {x y z : Int32} (hl : rLg v g l) (hS : scW l) (hpw : mPow g) (hs : rSg l v f g made dn sg hd) (hk : rLk f made sg sl) (hT : ∀ a s, a < 5 → sl a = some s → allN sg s.2.2 s.2.1 ≤ 600) (hq : rQl v f g qs) (hG : qrG qs) (h0 : f 49 0 = nI w0) (h1 : f 49 1 = nI w1) (hw : w0 ≤ 9 ∧ w1 ≤ 9) (hX : nAsk sl qs x y → Q (nI 0) (upd v 99 (nI 1)) f g) (hX2 : ∀ a s q e, isA sl qs x y a s q e → (∀ c, c < 10 → z ≠ nI c) → Q (nI 0) (upd v 99 (nI 2)) f g) (h : ∀ a s q e c, isA sl qs x y a s q e → c < 10 → z = nI c → ∀ v' f', rdO v v' f f' → Q (nI (sumL (fun d => if dC d = c then 1 else 0) ((mtQ sg s.2 e).map (fun y => (sg y.1).getD y.2 ((0, 0, 0), [], []))))) v' f' g) : r_facet Q x y z v f g := by
  unfold r_facet
  refine p_slotAsk hk hq (fun r hno => ?_) (fun a s q e hA => ?_)
  · refine p_in2 (lo := 0) (hi := 9) (by decide) (by decide) (fun _ => ?_) (fun _ _ _ _ => ?_)
    · exact p_goes (b1 := false) (b2 := false) (b3 := true) ⟨fun _ => hX hno, fun w => absurd rfl w⟩
    · exact p_goes (b1 := false) (b2 := true) (b3 := true) ⟨fun _ => hX hno, fun w => absurd rfl w⟩
  · refine p_in2 (lo := 0) (hi := 9) (by decide) (by decide) (fun hno => ?_) (fun c _ c9 ez => ?_)
    · exact p_goes (b1 := true) (b2 := false) (b3 := true) ⟨fun _ => hX2 a s q e hA (fun c hc => hno c (Nat.zero_le _) (by omega)), fun w => absurd rfl w⟩
    · have key := p_matchesAt (Q := Q) (x := x) (y := y) (co := some c) (r3 := true) (t := z) (fun _ c' hc => by rw [← Option.some.inj hc]; omega) hl hS hpw hs hk hT hq hG h0 h1 hw (fun a s q e hA _ v' f' ho => by rw [maN_cat]; exact h a s q e c hA (by omega) ez v' f' ho) (fun _ => ez)
      exact p_goes (b1 := true) (b2 := true) (b3 := true) ⟨fun w => absurd w (by decide), fun _ => key a s q e hA rfl⟩
end MA
