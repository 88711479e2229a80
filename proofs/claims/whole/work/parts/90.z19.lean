/-! the reference: questions of a snapshot; ranks by scan, matches, facets -/
/-- what is not asked of anything -/
def nAsk (sl : Nat → Option (Nat × Vw)) (qs : List (Nat × (Nat → Nd))) (x y : Int32) : Prop := (∀ k s, k < 5 → sl k = some s → nI s.1 ≠ x) ∨ ∃ a s, a < 5 ∧ sl a = some s ∧ nI s.1 = x ∧ ∀ k, k < qs.length → y ≠ nI k
def isA (sl : Nat → Option (Nat × Vw)) (qs : List (Nat × (Nat → Nd))) (x y : Int32) (a : Nat) (s : Nat × Vw) (q : Nat) (e : Nat × (Nat → Nd)) : Prop := a < 5 ∧ sl a = some s ∧ nI s.1 = x ∧ qs[q]? = some e ∧ y = nI q
section AS
variable {v v' : Nat → Int32} {f f' : Nat → Nat → Int32} {g g' : Nat → Nat → Int64} {l : LGt} {made dn : Nat} {sg : Nat → List Dc} {hd : Nat → Nat → Nat} {sl : Nat → Option (Nat × Vw)} {a k q m w0 w1 : Nat} {s : Vw} {nd : Nat → Nd} {rr : Nat → Nat} {qs : List (Nat × (Nat → Nd))}
theorem p_slotAsk {K : Int32 → Int32 → QV} {x y : Int32} (hk : rLk f made sg sl) (hq : rQl v f g qs) (hX : ∀ r, nAsk sl qs x y → K r (bI false) v f g) (h : ∀ a s q e, isA sl qs x y a s q e → K (nI a) (bI true) v f g) : r_slotOf (fun r_1 v_1 f_1 g_1 => r_isAsked (fun r_2 v_2 f_2 g_2 => K r_1 r_2 v_2 f_2 g_2) r_1 y v_1 f_1 g_1) x v f g := by
  refine p_slotOf hk (fun a s a5 hsl ex => ?_) (fun hno => ?_)
  · unfold r_isAsked
    refine ⟨fun w => absurd w (fun w => ?_), fun _ => ?_⟩
    · have := nI_pos (n := a) (by omega)
      rw [w] at this
      exact absurd (by decide) this
    rw [hq.1]
    have := hq.2.1
    refine p_inL (by omega) (fun hno => ⟨fun _ => hX _ (Or.inr ⟨a, s, a5, hsl, ex, hno⟩), fun w => absurd rfl w⟩) (fun q hql ey => ⟨fun w => absurd w (by decide), fun _ => ?_⟩)
    obtain ⟨e, he⟩ := get_ex (l := qs) (k := q) hql
    exact h a s q e ⟨a5, hsl, ex, he, ey⟩
  · unfold r_isAsked
    exact ⟨fun _ => hX _ (Or.inl hno), fun w => absurd rfl w⟩
theorem p_give1 {Q : QI} {y : Nat × Nat} (hc : rFc v f g l made dn sg hd sl q m nd w0 w1 rr) (hp : pFc g l sl a k s q m nd w0 w1 rr) (hy : y ∈ mtL sg s.2 s.1) (h : ∀ f', rS3 f f' → (vlN nd m w0 w1 rr (sg y.1) y.2).getD 0 < 2 ^ 31 → Q (cIn (vlN nd m w0 w1 rr (sg y.1) y.2)) v f' g) : r_gives1 Q (nI q) (nI (hd y.1 y.2)) v f g := by
  obtain ⟨hS, hpw, a5, hsl, q40, m48, hq, hG, h1, hlf, hw, hrr⟩ := hp
  obtain ⟨g1, g2, g3, g4, g5, g6, g7⟩ := hc
  have hid : ∀ n, n ∈ s.1 → n < made := fun n hn => by
    obtain ⟨j, hj⟩ := List.mem_iff_getElem?.mp hn
    exact (((g3 a a5).2 (k, s) hsl).2.2.2.1 j n hj).2
  obtain ⟨d, hd', hx, hlt⟩ := rSg_at g2 hid hy
  have vB : (vlN nd m w0 w1 rr (sg y.1) y.2).getD 0 < 2 ^ 31 := by
    have := vl_lt (mA := fun i' => mkA (sg y.1) (lfD nd m i') y.2) hq h1 hlf hw hrr
    unfold vlN
    omega
  refine p_gives1 g1 hS (by omega) hx.2.2.2 (by omega) g4 m48 g5 hq hG (by omega) hlf hw hrr g6 hpw (fun f3 s3 => ?_)
  have := h f3 s3 vB
  rw [vlN_O hd'] at this
  exact this
theorem p_withKey {Q : QI} {key : Nat} (hs : rSg l v f g made dn sg hd) (hv : rLv v f sg hd s) (hid : ∀ n, n ∈ s.1 → n < made) (hkey : key < 100) (h0 : (∀ y d, y ∈ mtL sg s.2 s.1 → (sg y.1)[y.2]? = some d → dK d ≠ key) → Q (-1) v f g) (h1 : ∀ y d, y ∈ mtL sg s.2 s.1 → (sg y.1)[y.2]? = some d → dK d = key → Q (nI (hd y.1 y.2)) v f g) : r_withKey Q (nI key) v f g := by
  obtain ⟨T, hT⟩ : ∃ T, T = mtL sg s.2 s.1 := ⟨_, rfl⟩
  obtain ⟨v60, T6, v38⟩ := hv
  have hmem : ∀ y, y ∈ T → _ := fun y hy => rSg_at (s := s) hs hid (by rw [← hT]; exact hy)
  rw [← hT] at v60 T6 v38 h0 h1
  unfold r_withKey
  intro x2 ex2
  rw [ex2]
  unfold r_withKey_4L
  refine lfp_cnt T.length (fun i z => ∃ x2 : Int32, ((x2 = -1 ∧ ∀ j y d, j < i → T[j]? = some y → (sg y.1)[y.2]? = some d → dK d ≠ key) ∨ ∃ y d, y ∈ T ∧ (sg y.1)[y.2]? = some d ∧ dK d = key ∧ x2 = nI (hd y.1 y.2)) ∧ z = (nI key, x2, nI i, v, f, g)) ?_ ⟨-1, Or.inl ⟨rfl, fun j y d hj => absurd hj (Nat.not_lt_zero j)⟩, rfl⟩
  rintro P i _ hi ⟨x2, hx2, rfl⟩ ih
  show r_withKey_4 Q _ (nI key) x2 (nI i) v f g
  unfold r_withKey_4
  rw [v60]
  refine pk_le T.length i (fun z => ?_) (fun z => ?_)
  · obtain rfl : i = T.length := by omega
    rcases hx2 with ⟨rfl, hno⟩ | ⟨y, d, hy, hd', hk, rfl⟩
    · refine h0 (fun y d hy hd' => ?_)
      obtain ⟨j, hj⟩ := List.mem_iff_getElem?.mp hy
      exact hno j y d (get_lt hj) hj hd'
    · exact h1 y d hy hd' hk
  obtain ⟨y, hy⟩ := get_ex (l := T) (k := i) z
  have hyT := List.mem_of_getElem? hy
  obtain ⟨d, hd', ⟨⟨k1, k2⟩, -⟩, hlt⟩ := hmem y hyT
  have e38 := v38 i y hy
  have iin : vp_in (nI i) 2424 := pk_in i 2424 (by omega)
  rw [nI_clamp (show i < 2 ^ 31 by omega), e38, nI_clamp (show hd y.1 y.2 < 2 ^ 31 by omega), k1]
  refine ⟨iin, pk_in (hd y.1 y.2) 2424 (by omega), w_ne (dK d) key (fun c => ?_) (fun c => ⟨iin, ?_⟩)⟩
  · unfold r_withKey_37
    rintro _ rfl
    rw [nI_add]
    refine ih _ z ⟨x2, ?_, rfl⟩
    rcases hx2 with ⟨w, hno⟩ | w
    · refine Or.inl ⟨w, fun j y' d' hj hy' hd2 => ?_⟩
      by_cases c2 : j = i
      · rw [c2, hy] at hy'
        obtain rfl := Option.some.inj hy'
        rw [hd'] at hd2
        obtain rfl := Option.some.inj hd2
        exact c
      · exact hno j y' d' (by omega) hy' hd2
    · exact Or.inr w
  · unfold r_withKey_37
    rintro _ rfl
    rw [nI_add]
    exact ih _ z ⟨nI (hd y.1 y.2), Or.inr ⟨y, d, hyT, hd', c, rfl⟩, rfl⟩
/-- what a read of a snapshot may change -/
def rdO (v v' : Nat → Int32) (f f' : Nat → Nat → Int32) : Prop := (∀ i, i ∉ [99, 60] → v' i = v i) ∧ v' 99 = nI 0 ∧ ∀ n, n ∉ [38, 52, 53, 54, 55, 56] → f' n = f n
theorem p_isKeyT {Q : QI} {x : Int32} (h0 : (∀ k, k < 100 → x ≠ nI k) → Q (bI false) v f g) (h1 : ∀ k, k < 100 → x = nI k → Q (bI true) v f g) : r_isKey Q x v f g := by
  unfold r_isKey
  exact p_in2 (lo := 0) (hi := 99) (by decide) (by decide) (fun hno => ⟨⟨_, rfl⟩, h0 (fun k hk => hno k (Nat.zero_le _) (by omega))⟩) (fun k h1' h2 hx => ⟨⟨_, rfl⟩, h1 k (by omega) hx⟩)
theorem hid_of {sl : Nat → Option (Nat × Vw)} {s : Nat × Vw} (hk : rLk f made sg sl) (ha : a < 5) (hsl : sl a = some s) : ∀ n, n ∈ s.2.1 → n < made := fun n hn => by
  obtain ⟨j, hj⟩ := List.mem_iff_getElem?.mp hn
  exact (((hk a ha).2 s hsl).2.2.2.1 j n hj).2
theorem p_rankByScan {Q : QI} {x y z : Int32} (hl : rLg v g l) (hS : scW l) (hpw : mPow g) (hs : rSg l v f g made dn sg hd) (hk : rLk f made sg sl) (hT : ∀ a s, a < 5 → sl a = some s → allN sg s.2.2 s.2.1 ≤ 600) (hq : rQl v f g qs) (hG : qrG qs) (h0 : f 49 0 = nI w0) (h1 : f 49 1 = nI w1) (hw : w0 ≤ 9 ∧ w1 ≤ 9) (hX1 : nAsk sl qs x y → Q (nI 0) (upd v 99 (nI 1)) f g) (hX2 : ∀ a s q e, isA sl qs x y a s q e → (∀ k, k < 100 → z ≠ nI k) → Q (nI 0) (upd v 99 (nI 1)) f g) (hN : ∀ a s q e key, isA sl qs x y a s q e → key < 100 → z = nI key → (∀ y d, y ∈ mtL sg s.2.2 s.2.1 → (sg y.1)[y.2]? = some d → dK d ≠ key) → ∀ v' f', rdO v v' f f' → Q (-1) v' f' g) (h : ∀ a s q e key, isA sl qs x y a s q e → key < 100 → z = nI key → ∀ y d, y ∈ mtL sg s.2.2 s.2.1 → (sg y.1)[y.2]? = some d → dK d = key → ∀ v' f', rdO v v' f f' → Q (cIn (vlN e.2 e.1 w0 w1 (rrL e.2 e.1 sg s.2.2 s.2.1) (sg y.1) y.2)) v' f' g) : r_rankByScan Q x y z v f g := by
  have bad : ∀ r, Q (nI 0) (upd v 99 (nI 1)) f g → r_rankByScan_30 Q y z r (nI 0) v f g := by
    intro r hQ
    unfold r_rankByScan_30
    refine p_goes (b1 := false) (b2 := true) (b3 := true) ?_
    exact ⟨fun w => absurd rfl w, fun _ => hQ⟩
  unfold r_rankByScan r_rankByScan_29
  refine p_slotAsk hk hq (fun r hno => ?_) (fun a s q e hA => ?_)
  · exact ⟨fun _ => bad r (hX1 hno), fun w => absurd rfl w⟩
  refine ⟨fun w => absurd w (by decide), fun _ => p_isKeyT (fun hno => ?_) (fun key hkey ez => ?_)⟩
  · exact ⟨fun _ => bad _ (hX2 a s q e hA hno), fun w => absurd rfl w⟩
  refine ⟨fun w => absurd w (by decide), fun _ => ?_⟩
  have hN := hN a s q e key hA hkey ez
  have h := h a s q e key hA hkey ez
  obtain ⟨a5, hsl, ex, he, ey⟩ := hA
  have q40 := get_lt he
  have ql := hq.2.1
  unfold r_rankByScan_30
  refine p_goes (b1 := true) (b2 := true) (b3 := true) ?_
  refine ⟨fun _ => ?_, fun w => absurd w (by decide)⟩
  obtain ⟨v1, hv1⟩ : ∃ v1, v1 = upd v 99 (goX true true true) := ⟨_, rfl⟩
  rw [← hv1, ey, ez]
  have v1o : ∀ i, i ≠ 99 → v1 i = v i := fun i hi => by rw [hv1, upd_n hi]
  have v199 : v1 99 = nI 0 := by rw [hv1]; exact upd_at
  have hs1 : rSg l v1 f g made dn sg hd := by
    unfold rSg
    rw [v1o 29 (by decide), v1o 26 (by decide)]; exact hs
  refine p_ready (k := s.1) (s := s.2) (rLg_fr (v1o 9 (by decide)) (v1o 6 (by decide)) rfl rfl rfl hl) hS hpw hs1 hk a5 hsl (hT a s a5 hsl) (rQl_56 (v1o 73 (by decide)) (fun _ _ _ => rfl) hq) hG he h0 h1 hw (fun v2 f2 b1 b2 b3 b4 b5 => ?_)
  have o2 : ∀ f3, rS3 f2 f3 → rdO v v2 f f3 := fun f3 s3 => ⟨fun i hi => (b1 i (fun e => hi (by rw [e]; decide))).trans (v1o i (fun e => hi (by rw [e]; decide))), (b1 99 (by decide)).trans v199, fun n hn => (s3 n (fun e => hn (by rw [e]; decide)) (fun e => hn (by rw [e]; decide)) (fun e => hn (by rw [e]; decide))).trans (b2 n (fun w => hn (by revert w; simp; omega)))⟩
  refine p_withKey b4.2.1 b3 (hid_of hk a5 hsl) hkey (fun hno => ?_) (fun y d hy hd' hk' => ?_)
  · exact ⟨fun w => absurd rfl w, fun _ => hN hno v2 f2 (o2 f2 (fun _ _ _ _ => rfl))⟩
  · refine ⟨fun _ => p_give1 b4 b5 hy (fun f3 s3 _ => h y d hy hd' hk' v2 f3 (o2 f3 s3)), fun w => ?_⟩
    have hlt := (rSg_at b4.2.1 (hid_of hk a5 hsl) hy).choose_spec.2.2
    have := nI_pos (n := hd y.1 y.2) (by omega)
    rw [w] at this
    exact absurd (by decide) this
end AS
