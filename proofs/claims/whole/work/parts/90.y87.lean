/-! the reference: crashAt, isDown, writes, finish -/
/-- a view in rows -/
def rVw (f : Nat → Nat → Int32) (row lrow made : Nat) (sg : Nat → List Dc) (s : Vw) : Prop := s.1.length ≤ 200 ∧ (∀ k n, s.1[k]? = some n → f row k = nI n ∧ n < made) ∧ ∀ n, n ∈ s.1 → ∀ j, j < (sg n).length → f lrow (100 * n + j) = bI (s.2 n j)
def rOv (v : Nat → Int32) (f : Nat → Nat → Int32) (flag cnt row lrow made : Nat) (sg : Nat → List Dc) (o : Option Vw) : Prop := v flag = bI o.isSome ∧ ∀ s, o = some s → v cnt = nI s.1.length ∧ rVw f row lrow made sg s
/-- all of a row are truths -/
def zRw (f : Nat → Nat → Int32) (n N : Nat) : Prop := ∀ k, k < N → isZ (f n k)
section FI
variable {v v' : Nat → Int32} {f f' : Nat → Nat → Int32} {g g' : Nat → Nat → Int64} {l : LGt} {made dn w fi : Nat} {sg : Nat → List Dc} {hd : Nat → Nat → Nat} {ids : List Nat} {lv : Nat → Nat → Bool} {cc : Option Nat} {off : Bool} {pr : Option Vw}
theorem p_isDown {Q : QI} (h98 : v 98 = bI off) (h : Q (bI off) (upd v 99 (nI 0)) f g) : r_isDown Q v f g := by
  unfold r_isDown
  rintro _ rfl
  rw [upd_n (by decide), h98]
  exact ⟨⟨_, rfl⟩, h⟩
theorem p_writes {Q : QI} (h96 : v 96 = nI w) (h : Q (nI w) (upd v 99 (nI 0)) f g) : r_writes Q v f g := by
  unfold r_writes
  rintro _ rfl
  rw [upd_n (by decide), h96]
  exact h
theorem p_crashAt {Q : QV} {x : Int32} (h98 : v 98 = bI off) (h1 : inB x (nI 0) (nI 1000) = false → Q (upd v 99 (nI 1)) f g) (h2 : inB x (nI 0) (nI 1000) = true → off = true → Q (upd v 99 (nI 2)) f g) (h3 : ∀ k, k ≤ 1000 → x = nI k → off = false → Q (upd (upd v 99 (nI 0)) 97 (nI k)) f g) : r_crashAt Q x v f g := by
  have go : ∀ b : Bool, b = !off → r_crashAt_21 Q x (bI b) (bI (inB x (nI 0) (nI 1000))) v f g := by
    intro b hb
    unfold r_crashAt_21
    refine p_goes (b3 := true) ?_
    cases e1 : inB x (nI 0) (nI 1000) with
    | false => exact ⟨fun _ => h1 e1, fun c => absurd rfl c⟩
    | true =>
      cases off with
      | true => rw [hb]; exact ⟨fun _ => h2 e1 rfl, fun c => absurd rfl c⟩
      | false =>
        rw [hb]
        obtain ⟨k, hk, rfl⟩ := inB_of (by decide) e1
        refine ⟨fun c => absurd c (by decide), fun _ => ?_⟩
        rintro _ rfl
        exact h3 k hk rfl rfl
  unfold r_crashAt
  refine p_in ?_
  rw [h98]
  exact w_bn off (fun e => go false (by rw [e]; rfl)) (fun e => go true (by rw [e]; rfl))
theorem p_finish {Q : QI} (h98 : v 98 = bI off) (h97 : v 97 = cIn cc) (h96 : v 96 = nI w) (h39 : v 39 = nI fi) (hcc : ∀ k, cc = some k → k ≤ 1000) (hp : rOv v f 40 42 27 28 made sg pr) (hz : zRw f 28 20200) (hsz : ∀ n, n < made → n < 202 ∧ (sg n).length ≤ 100) (hX : off = true ∨ pr = none → Q (nI 0) (upd v 99 (nI 1)) f g)
    (h0 : ∀ s v' f', off = false → pr = some s → cc = some 0 → rF [99, 98, 20, 49, 40, 85, 88, 89, 90, 34] [29] [] v f g v' f' g → v' 99 = nI 0 → rDn v' f' → Q (-2) v' f' g)
    (h1 : ∀ s v' f', off = false → pr = some s → cc ≠ some 0 → rF [99, 96, 97, 35, 37, 39, 40] [25, 26] [] v f g v' f' g → v' 99 = nI 0 → v' 96 = nI (w + 1) → v' 97 = cIn (cc.map (fun k => k - 1)) → v' 39 = nI (fi + 1) → v' 40 = bI false → rOv v' f' 35 37 25 26 made sg (some s) → zRw f' 26 20200 → Q (nI (fi + 1)) v' f' g) : r_finish Q v f g := by
  have no : (off = true ∨ pr = none) → r_finish_19 Q v f g := by
    intro h
    unfold r_finish_19 r_finish_20
    exact goF (b1 := false) ⟨fun c => absurd rfl c, fun _ => hX h⟩
  unfold r_finish
  rw [h98, hp.1]
  refine w_bn off (fun e => no (Or.inl e)) (fun e => w_b0 pr.isSome (fun e2 => no (Or.inr ?_)) (fun e2 => ?_))
  · cases pr with
    | none => rfl
    | some m => exact absurd e2 (by simp)
  cases hpr : pr with
  | none => rw [hpr] at e2; exact absurd e2 (by simp)
  | some s =>
    obtain ⟨p42, p1, p2, p3⟩ := hp.2 s hpr
    unfold r_finish_20
    refine goF (b1 := true) ⟨fun _ => ?_, fun c => absurd c (by decide)⟩
    refine p_writes1 (cc := cc) (w := w) ((upd_n (by decide)).trans h97) ((upd_n (by decide)).trans h96) hcc (fun hne v2 o2 w2 c2 => ⟨fun _ => ?_, fun c => absurd c (by decide)⟩) (fun hz0 v2 f2 hF hD => ⟨fun c => absurd rfl c, fun _ => h0 s v2 f2 e hpr hz0 (rF_99 hF) ((hF.1 99 (by decide)).trans upd_at) hD⟩)
    have o3 : ∀ i, i ≠ 99 → i ≠ 96 → i ≠ 97 → v2 i = v i := fun i a1 a2 a3 => (o2 i a2 a3).trans (upd_n a1)
    rintro v3 e3 v4 e4 v5 e5
    have v442 : v4 42 = nI s.1.length := by rw [e4, upd_n (by decide), e3, upd_n (by decide)]; exact (o3 42 (by decide) (by decide) (by decide)).trans p42
    rw [v442] at e5
    have v5o : ∀ j, j ≠ 35 → j ≠ 40 → j ≠ 37 → v5 j = v2 j := fun j a1 a2 a3 => by rw [e5, upd_n a3, e4, upd_n a2, e3, upd_n a1]
    have v535 : v5 35 = bI true := by rw [e5, upd_n (by decide), e4, upd_n (by decide), e3]; exact upd_at
    have v540 : v5 40 = bI false := by rw [e5, upd_n (by decide), e4]; exact upd_at
    have v537 : v5 37 = nI s.1.length := by rw [e5]; exact upd_at
    have v542 : v5 42 = nI s.1.length := (v5o 42 (by decide) (by decide) (by decide)).trans ((o3 42 (by decide) (by decide) (by decide)).trans p42)
    unfold r_finish_60L
    refine lfp_cnt s.1.length (fun k y => ∃ f2, (∀ n, n ≠ 25 → f2 n = f n) ∧ (∀ a n, a < k → s.1[a]? = some n → f2 25 a = nI n) ∧ y = (nI k, v5, f2, g)) ?_ ⟨f, fun _ _ => rfl, fun a n ha => absurd ha (Nat.not_lt_zero a), rfl⟩
    rintro P k _ hk ⟨f2, a1, a2, rfl⟩ ih
    show r_finish_60 Q _ (nI k) v5 f2 g
    unfold r_finish_60
    rw [v542, nI_clamp (show k < 2 ^ 31 by omega)]
    refine pk_le s.1.length k (fun z => ?_) (fun z => ⟨pk_in k 202 (by omega), pk_in k 202 (by omega), fun f9 e9 => ?_⟩)
    · obtain rfl : k = s.1.length := by omega
      unfold r_finish_88L
      refine lfp_cnt 20200 (fun i y => ∃ f3, (∀ n, n ≠ 26 → f3 n = f2 n) ∧ (∀ a, a < i → f3 26 a = f 28 a) ∧ y = (nI i, v5, f3, g)) ?_ ⟨f2, fun _ _ => rfl, fun a ha => absurd ha (Nat.not_lt_zero a), rfl⟩
      rintro P2 i _ hi ⟨f3, b1, b2, rfl⟩ ih2
      show r_finish_88 Q _ (nI i) v5 f3 g
      have f28 : f3 28 = f 28 := (b1 28 (by decide)).trans (a1 28 (by decide))
      unfold r_finish_88
      rw [nI_clamp (show i < 2 ^ 31 by omega), f28]
      refine pk_le 20200 i (fun z2 => ?_) (fun z2 => ⟨pk_in i 20200 z2, pk_in i 20200 z2, hz i z2, fun f7 e7 => ?_⟩)
      · obtain rfl : i = 20200 := by omega
        rw [v5o 39 (by decide) (by decide) (by decide), o3 39 (by decide) (by decide) (by decide), h39, nI_add]
        rintro v6 e6
        have v6o : ∀ j, j ≠ 39 → v6 j = v5 j := fun j hj => by rw [e6, upd_n hj]
        have v639 : v6 39 = nI (fi + 1) := by rw [e6]; exact upd_at
        rw [v639]
        refine h1 s v6 f3 e hpr hne ⟨fun j hj => ?_, fun n hn => (b1 n (fun e => hn (by rw [e]; decide))).trans (a1 n (fun e => hn (by rw [e]; decide))), fun _ _ => rfl⟩ ?_ ?_ ?_ v639 ((v6o 40 (by decide)).trans v540) ⟨(v6o 35 (by decide)).trans v535, fun s' hs' => ?_⟩ (fun a ha => by rw [b2 a ha]; exact hz a ha)
        · rw [v6o j (fun e => hj (by rw [e]; decide)), v5o j (fun e => hj (by rw [e]; decide)) (fun e => hj (by rw [e]; decide)) (fun e => hj (by rw [e]; decide))]
          exact o3 j (fun e => hj (by rw [e]; decide)) (fun e => hj (by rw [e]; decide)) (fun e => hj (by rw [e]; decide))
        · rw [v6o 99 (by decide), v5o 99 (by decide) (by decide) (by decide)]
          exact (o2 99 (by decide) (by decide)).trans upd_at
        · rw [v6o 96 (by decide), v5o 96 (by decide) (by decide) (by decide)]; exact w2
        · rw [v6o 97 (by decide), v5o 97 (by decide) (by decide) (by decide)]; exact c2
        · obtain rfl := Option.some.inj hs'
          refine ⟨(v6o 37 (by decide)).trans v537, p1, fun a n ha => ⟨?_, (p2 a n ha).2⟩, fun n hn j hj => ?_⟩
          · rw [b1 25 (by decide)]; exact a2 a n (get_lt ha) ha
          · obtain ⟨a, ha⟩ := List.getElem?_of_mem hn
            obtain ⟨u1, u2⟩ := hsz n (p2 a n ha).2
            rw [b2 _ (by omega)]
            exact p3 n hn j hj
      · rintro _ rfl
        rw [nI_add]
        refine ih2 _ z2 ⟨f7, fun n hn => by rw [e7, mU_n hn]; exact b1 n hn, fun a ha => ?_, rfl⟩
        rw [e7, mU_s]
        show (if a = i then f 28 i else f3 26 a) = _
        by_cases c : a = i
        · rw [if_pos c, c]
        · rw [if_neg c]; exact b2 a (by omega)
    · obtain ⟨n, hn⟩ := get_ex z
      rw [a1 27 (by decide), (p2 k n hn).1] at e9
      rintro _ rfl
      rw [nI_add]
      refine ih _ z ⟨f9, fun m hm => by rw [e9, mU_n hm]; exact a1 m hm, fun a m ha hm => ?_, rfl⟩
      rw [e9, mU_s]
      show (if a = k then nI n else f2 25 a) = nI m
      by_cases c : a = k
      · subst c
        rw [hn] at hm
        rw [if_pos rfl, Option.some.inj hm]
      · rw [if_neg c]; exact a2 a m (by omega) hm
end FI
