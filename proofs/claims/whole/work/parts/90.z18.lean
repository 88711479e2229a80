/-! the reference: searches, hits, what was skipped, what was used
-/
section FD
variable {v v' : Nat → Int32} {f f' : Nat → Nat → Int32} {g g' : Nat → Nat → Int64} {l : LGt} {made dn : Nat} {sg : Nat → List Dc} {hd : Nat → Nat → Nat} {sl : Nat → Option (Nat × Vw)} {a k q m w0 w1 : Nat} {s : Vw} {nd : Nat → Nd} {rr : Nat → Nat} {R : List (Nat × Nat)}
theorem p_find_segs {Q : QI} {mo : Nat} (hc : rFc v f g l made dn sg hd sl q m nd w0 w1 rr) (hp : pFc g l sl a k s q m nd w0 w1 rr) (hmo : 1 ≤ mo ∧ mo ≤ 20) (h88 : v 88 = nI 0) (h89 : v 89 = nI 0) (h90 : v 90 = nI 0) (hR : rCa v f R) (h : ∀ v' f' r, (∀ i, i ∉ [85, 88, 89, 90] → v' i = v i) → fdF f f' → tkR q s.1 s.1.length (R, 0) r → rCa v' f' r.1 → v' 90 = nI r.2 → rHt v' f' (srS nd m w0 w1 rr sg s.2 mo s.1 s.1.length).1 → v' 89 = nI (srS nd m w0 w1 rr sg s.2 mo s.1 s.1.length).2 → Q (nI (srS nd m w0 w1 rr sg s.2 mo s.1 s.1.length).1.length) v' f' g) : r_find_74L Q (nI q) (nI mo) (nI a) (nI 0) v f g := by
  obtain ⟨hS, hpw, a5, hsl, q40, m48, hq, hG, h1, hlf, hw, hrr⟩ := id hp
  obtain ⟨-, ⟨⟨-, m201⟩, -⟩, hk0, -⟩ := id hc
  obtain ⟨-, e31, l200, hids, -⟩ := (hk0 a a5).2 (k, s) hsl
  have l200 : s.1.length ≤ 200 := l200
  unfold r_find_74L
  refine lfp_cnt s.1.length (fun i y => ∃ v' f' r, (∀ i, i ∉ [85, 88, 89, 90] → v' i = v i) ∧ fdF f f' ∧ tkR q s.1 i (R, 0) r ∧ rCa v' f' r.1 ∧ v' 90 = nI r.2 ∧ rHt v' f' (srS nd m w0 w1 rr sg s.2 mo s.1 i).1 ∧ v' 89 = nI (srS nd m w0 w1 rr sg s.2 mo s.1 i).2 ∧ y = (nI q, nI mo, nI a, nI i, v', f', g)) ?_ ⟨v, f, (R, 0), fun _ _ => rfl, fdF_rf, rfl, hR, h90, ⟨h88, by show (0 : Nat) ≤ 20; omega, fun i x hx => absurd (get_lt hx) (Nat.not_lt_zero i)⟩, h89, rfl⟩
  rintro P i _ hi ⟨v', f', r, b1, b2, b3, b4, b5, b6, b7, rfl⟩ ih
  show r_find_74 Q _ (nI q) (nI mo) (nI a) (nI i) v' f' g
  have ac : (nI a).toNatClampNeg = a := nI_clamp (by omega)
  unfold r_find_74
  rw [ac, b2 31 (by decide), e31]
  refine ⟨pk_in a 5 a5, pk_le s.1.length i (fun z => ?_) (fun z => ?_)⟩
  · obtain rfl : i = s.1.length := by omega
    rw [b6.1]
    exact h v' f' r b1 b2 b3 b4 b5 b6 b7
  obtain ⟨n, hn⟩ := get_ex (l := s.1) (k := i) z
  obtain ⟨e30, nm⟩ := hids i n hn
  rw [pk_mul, nI_add, nI_clamp (show 202 * a + i < 2 ^ 31 by omega), b2 30 (by decide), e30]
  refine ⟨pk_in (202 * a + i) 1010 (by omega), ?_⟩
  intro x6 ex6
  rw [ex6]
  refine p_takes (y := (q, n)) ⟨by show q < 2 ^ 31; omega, by show n < 2 ^ 31; omega⟩ b4 (fun v1 f1 R1 t c1 c2 c3 c4 => ?_)
  have ss : srS nd m w0 w1 rr sg s.2 mo s.1 (i + 1) = bkS (hfN nd m w0 w1 rr sg s.2 n) (bdS nd m w0 w1 rr sg n) mo (sg n).length (srS nd m w0 w1 rr sg s.2 mo s.1 i) (((sg n).length + 3) / 4) := by rw [srS, hn]
  have go : ∀ x : Nat, (x = if t = true then 1 else 0) → r_find_122 Q (fun b0 b1 b2 b3 v f g => P (b0, b1, b2, b3, v, f, g)) (nI q) (nI mo) (nI a) (nI i) (nI n) (nI x) (v' 90) v1 f1 g := by
    intro x hx
    unfold r_find_122
    intro v2 e2
    have v2o : ∀ i, i ≠ 85 → i ≠ 90 → v2 i = v' i := fun i h1 h2 => by rw [e2, upd_n h2, c1 i h1]
    have ff : fdF f f1 := fdF_tr b2 (fun j hj => c2 j (fun e => hj (by rw [e]; decide)) (fun e => hj (by rw [e]; decide)))
    have v2O : ∀ i, i ∉ [85, 88, 89, 90] → v2 i = v i := fun i hi => (v2o i (fun e => hi (by rw [e]; decide)) (fun e => hi (by rw [e]; decide))).trans (b1 i hi)
    refine p_find_blocks (sk := (srS nd m w0 w1 rr sg s.2 mo s.1 i).2) (H := (srS nd m w0 w1 rr sg s.2 mo s.1 i).1) (rFc_fr v2O ff hc) hp hmo (srS_len hmo.1 i) (rHt_fr (v2o 88 (by decide) (by decide)) (c2 59 (by decide) (by decide)) (c2 60 (by decide) (by decide)) b6) (by rw [v2o 89 (by decide) (by decide)]; exact b7) (List.mem_of_getElem? hn) (fun v3 f3 d1 d2 d3 d4 d5 d6 => ?_)
    rw [nI_add]
    refine ih _ z ⟨v3, f3, (R1, r.2 + x), fun j hj => (d1 j (fun e => hj (by rw [e]; decide)) (fun e => hj (by rw [e]; decide))).trans (v2O j hj), fdF_tr ff d2, ⟨r, b3, n, t, hn, c3, by rw [hx]⟩, ?_, ?_, ?_, ?_, rfl⟩
    · refine rCa_fr ?_ d3 d4 c4
      rw [d1 85 (by decide) (by decide), e2, upd_n (by decide)]
    · show v3 90 = nI (r.2 + x)
      rw [d1 90 (by decide) (by decide), e2, upd_at, b5, nI_add]
    · rw [ss]; exact d5
    · rw [ss]; exact d6
  exact w_B0 (fun e => go 0 (by rw [e]; rfl)) (fun e => go 1 (by rw [e]; rfl))
/-- queries keep what searches ask -/
def qrG (qs : List (Nat × (Nat → Nd))) : Prop := ∀ e, e ∈ qs → qWf e ∧ ∀ j, j < e.1 → ndG (e.2 j)
variable {qs : List (Nat × (Nat → Nd))}
theorem rQl_56 (h73 : v' 73 = v 73) (hf : ∀ n, 40 ≤ n → n ≤ 48 → f' n = f n) (h : rQl v f g qs) : rQl v' f' g qs := by
  obtain ⟨h1, h2, h3⟩ := h
  refine ⟨h73.trans h1, h2, fun i e hi => ?_⟩
  obtain ⟨a1, a2, a3⟩ := h3 i e hi
  refine ⟨by rw [hf 48 (by decide) (by decide)]; exact a1, a2, fun j hj => rNd_cp (a3 j hj) ?_ ?_ ?_ ?_ ?_ (fun _ _ => rfl) (fun i _ => ?_) (fun i _ => ?_)⟩
  · rw [hf 40 (by decide) (by decide)]
  · rw [hf 41 (by decide) (by decide)]
  · rw [hf 42 (by decide) (by decide)]
  · rw [hf 43 (by decide) (by decide)]
  · rw [hf 44 (by decide) (by decide)]
  · rw [hf 46 (by decide) (by decide)]
  · rw [hf 47 (by decide) (by decide)]
/-- a question made ready, whole -/
theorem p_ready {Q : QV} {e : Nat × (Nat → Nd)} (hl : rLg v g l) (hS : scW l) (hpw : mPow g) (hs : rSg l v f g made dn sg hd) (hk : rLk f made sg sl) (ha : a < 5) (hsl : sl a = some (k, s)) (hT : allN sg s.2 s.1 ≤ 600) (hq : rQl v f g qs) (hG : qrG qs) (he : qs[q]? = some e) (h0 : f 49 0 = nI w0) (h1 : f 49 1 = nI w1) (hw : w0 ≤ 9 ∧ w1 ≤ 9) (h : ∀ v' f', (∀ i, i ≠ 60 → v' i = v i) → (∀ n, n ∉ [38, 54, 55, 56] → f' n = f n) → rLv v' f' sg hd s → rFc v' f' g l made dn sg hd sl q e.1 e.2 w0 w1 (rrL e.2 e.1 sg s.2 s.1) → pFc g l sl a k s q e.1 e.2 w0 w1 (rrL e.2 e.1 sg s.2 s.1) → Q v' f' g) : r_readies Q (nI a) (nI q) v f g := by
  obtain ⟨⟨w1', w2', w3', w4'⟩, gN⟩ := hG e (List.mem_of_getElem? he)
  obtain ⟨q1, q2, q3⟩ := id hq
  obtain ⟨a1, a2, a3⟩ := q3 q e he
  have q40 := get_lt he
  have hid : ∀ n, n ∈ s.1 → n < made := fun n hn => by
    obtain ⟨j, hj⟩ := List.mem_iff_getElem?.mp hn
    exact (((hk a ha).2 (k, s) hsl).2.2.2.1 j n hj).2
  refine p_readies hl hs hk ha hsl (by rw [mtL_cnt]; exact hT) hid (by omega) a1 a2 a3 w1' h0 h1 (fun v' f' b1 b2 b3 => ?_)
  have e4 : ∀ n, 40 ≤ n → n ≤ 49 → f' n = f n := fun n h1 h2 => b2 n (fun w => by
    rcases List.mem_cons.mp w with w | w
    · omega
    · rcases List.mem_cons.mp w with w | w
      · omega
      · rcases List.mem_cons.mp w with w | w
        · omega
        · have := List.mem_singleton.mp w; omega)
  have hq' := rQl_56 (b1 73 (by decide)) (fun n h1 h2 => e4 n h1 (by omega)) hq
  obtain ⟨c1, c2, c3⟩ := hq'.2.2 q e he
  refine h v' f' b1 b2 b3.1 ⟨rLg_fr (b1 9 (by decide)) (b1 6 (by decide)) rfl rfl rfl hl, ?_, rLk_fr (b2 29 (by decide)) (b2 30 (by decide)) (b2 31 (by decide)) (b2 32 (by decide)) hk, c1, c3, b3.2.1, b3.2.2⟩ ⟨hS, hpw, ha, hsl, by omega, a2, w1', gN, w3', w2', hw, ?_⟩
  · unfold rSg
    rw [b1 29 (by decide), b1 26 (by decide), b2 20 (by decide), b2 19 (by decide), b2 14 (by decide), b2 15 (by decide), b2 16 (by decide), b2 18 (by decide)]; exact hs
  · exact rrL_le w1' (by omega)
theorem p_find {Q : QI} {x y z : Int32} (hl : rLg v g l) (hS : scW l) (hpw : mPow g) (hs : rSg l v f g made dn sg hd) (hk : rLk f made sg sl) (hT : ∀ a s, a < 5 → sl a = some s → allN sg s.2.2 s.2.1 ≤ 600) (hq : rQl v f g qs) (hG : qrG qs) (h0 : f 49 0 = nI w0) (h1 : f 49 1 = nI w1) (hw : w0 ≤ 9 ∧ w1 ≤ 9) (hR : rCa v f R) (hX1 : (∀ k s, k < 5 → sl k = some s → nI s.1 ≠ x) → Q (nI 0) (upd v 99 (nI 1)) f g) (hX2 : ∀ a s, a < 5 → sl a = some s → nI s.1 = x → (∀ k, k < qs.length → y ≠ nI k) → Q (nI 0) (upd v 99 (nI 1)) f g) (hX3 : ∀ a s q e, a < 5 → sl a = some s → nI s.1 = x → qs[q]? = some e → y = nI q → (∀ k, 1 ≤ k → k ≤ 20 → z ≠ nI k) → Q (nI 0) (upd v 99 (nI 2)) f g) (h : ∀ a s q e mo, a < 5 → sl a = some s → nI s.1 = x → qs[q]? = some e → y = nI q → z = nI mo → 1 ≤ mo → mo ≤ 20 → ∀ v' f' r, (∀ i, i ∉ [99, 60, 85, 88, 89, 90] → v' i = v i) → v' 99 = nI 0 → (∀ n, n ∉ [38, 52, 53, 54, 55, 56, 57, 58, 59, 60] → f' n = f n) → tkR q s.2.1 s.2.1.length (R, 0) r → rCa v' f' r.1 → v' 90 = nI r.2 → rHt v' f' (srS e.2 e.1 w0 w1 (rrL e.2 e.1 sg s.2.2 s.2.1) sg s.2.2 mo s.2.1 s.2.1.length).1 → v' 89 = nI (srS e.2 e.1 w0 w1 (rrL e.2 e.1 sg s.2.2 s.2.1) sg s.2.2 mo s.2.1 s.2.1.length).2 → Q (nI (srS e.2 e.1 w0 w1 (rrL e.2 e.1 sg s.2.2 s.2.1) sg s.2.2 mo s.2.1 s.2.1.length).1.length) v' f' g) : r_find Q x y z v f g := by
  have q40 := hq.2.1
  have bad : ∀ (x4 : Int32), Q (nI 0) (upd v 99 (nI 1)) f g → r_find_33 Q y z x4 (nI 0) v f g := by
    intro x4 hQ
    unfold r_find_33
    refine p_in (p_goes (b1 := false) (b3 := true) ?_)
    exact ⟨fun w => absurd rfl w, fun _ => hQ⟩
  unfold r_find
  refine p_slotOf hk (fun a s a5 hsl ex => ?_) (fun hno => ?_)
  · refine ⟨fun w => absurd w (fun w => ?_), fun _ => ?_⟩
    · have := nI_pos (n := a) (by omega)
      rw [w] at this
      exact absurd (by decide) this
    rw [hq.1]
    refine p_inL (by omega) (fun hno => ?_) (fun q hql ey => ?_)
    · refine ⟨fun _ => ?_, fun w => absurd rfl w⟩
      unfold r_find_32
      exact bad (nI a) (hX2 a s a5 hsl ex hno)
    · refine ⟨fun w => absurd w (by decide), fun _ => ?_⟩
      obtain ⟨e, he⟩ := get_ex (l := qs) (k := q) hql
      unfold r_find_33
      refine p_in2 (by decide) (by decide) (fun hno => ?_) (fun mo m1 m20 ez => ?_)
      · refine p_goes (b1 := true) (b2 := false) (b3 := true) ?_
        exact ⟨fun w => absurd rfl w, fun _ => hX3 a s q e a5 hsl ex he ey hno⟩
      · refine p_goes (b1 := true) (b2 := true) (b3 := true) ?_
        refine ⟨fun _ => ?_, fun w => absurd w (by decide)⟩
        obtain ⟨v1, hv1⟩ : ∃ v1, v1 = upd v 99 (goX true true true) := ⟨_, rfl⟩
        rw [← hv1, ey]
        have v1o : ∀ i, i ≠ 99 → v1 i = v i := fun i hi => by rw [hv1, upd_n hi]
        have v199 : v1 99 = nI 0 := by rw [hv1]; exact upd_at
        have hs1 : rSg l v1 f g made dn sg hd := by
          unfold rSg
          rw [v1o 29 (by decide), v1o 26 (by decide)]; exact hs
        refine p_ready (k := s.1) (s := s.2) (rLg_fr (v1o 9 (by decide)) (v1o 6 (by decide)) rfl rfl rfl hl) hS hpw hs1 hk a5 hsl (hT a s a5 hsl) (rQl_56 (v1o 73 (by decide)) (fun _ _ _ => rfl) hq) hG he h0 h1 hw (fun v2 f2 b1 b2 b3 b4 b5 => ?_)
        intro v5 e5 v6 e6 v7 e7
        have v7o : ∀ i, i ≠ 88 → i ≠ 89 → i ≠ 90 → v7 i = v2 i := fun i h1 h2 h3 => by rw [e7, upd_n h3, e6, upd_n h2, e5, upd_n h1]
        have v7o' : ∀ i, i ∉ [85, 88, 89, 90] → v7 i = v2 i := fun i hi => v7o i (fun e => hi (by rw [e]; decide)) (fun e => hi (by rw [e]; decide)) (fun e => hi (by rw [e]; decide))
        have r2 : rCa v7 f2 R := rCa_fr (by rw [v7o 85 (by decide) (by decide) (by decide), b1 85 (by decide), v1o 85 (by decide)]) (b2 57 (by decide)) (b2 58 (by decide)) hR
        rw [ez]
        refine p_find_segs (rFc_fr v7o' fdF_rf b4) b5 ⟨m1, m20⟩ (by rw [e7, upd_n (by decide), e6, upd_n (by decide), e5, upd_at]) (by rw [e7, upd_n (by decide), e6, upd_at]) (by rw [e7, upd_at]) r2 (fun v8 f8 r c1 c2 c3 c4 c5 c6 c7 => ?_)
        refine h a s q e mo a5 hsl ex he ey ez m1 m20 v8 f8 r (fun i hi => ?_) ?_ (fun n hn => ?_) c3 c4 c5 c6 c7
        · rw [c1 i (fun w => hi (by revert w; simp; omega)), v7o' i (fun w => hi (by revert w; simp; omega)), b1 i (fun e => hi (by rw [e]; decide)), v1o i (fun e => hi (by rw [e]; decide))]
        · rw [c1 99 (by decide), v7o' 99 (by decide), b1 99 (by decide), v199]
        · rw [c2 n (fun w => hn (by revert w; simp; omega)), b2 n (fun w => hn (by revert w; simp; omega))]
  · refine ⟨fun _ => ?_, fun w => absurd rfl w⟩
    unfold r_find_32
    exact bad (-1) (hX1 hno)
theorem p_hitAt {Q : QI} {x : Int32} {H : List (Nat × Nat)} (hH : rHt v f H) (hX : (∀ k, k < H.length → x ≠ nI k) → Q (nI 0) (upd v 99 (nI 1)) f g) (h : ∀ k y, H[k]? = some y → x = nI k → Q (nI y.1) (upd v 99 (nI 0)) f g) : r_hitAt Q x v f g := by
  obtain ⟨h88, h20, hR⟩ := hH
  unfold r_hitAt
  rw [h88]
  refine p_inL (by omega) (fun hno => p_goes (b2 := true) (b3 := true) ⟨fun _ => hX hno, fun w => absurd rfl w⟩) (fun k hk ex => p_goes (b2 := true) (b3 := true) ⟨fun w => absurd w (by decide), fun _ => ?_⟩)
  obtain ⟨y, hy⟩ := get_ex (l := H) (k := k) hk
  rw [ex, nI_clamp (show k < 2 ^ 31 by omega), (hR k y hy).1]
  exact ⟨pk_in k 20 (by omega), h k y hy ex⟩
theorem p_rankAt {Q : QI} {x : Int32} {H : List (Nat × Nat)} (hH : rHt v f H) (hX : (∀ k, k < H.length → x ≠ nI k) → Q (nI 0) (upd v 99 (nI 1)) f g) (h : ∀ k y, H[k]? = some y → x = nI k → Q (nI y.2) (upd v 99 (nI 0)) f g) : r_rankAt Q x v f g := by
  obtain ⟨h88, h20, hR⟩ := hH
  unfold r_rankAt
  rw [h88]
  refine p_inL (by omega) (fun hno => p_goes (b2 := true) (b3 := true) ⟨fun _ => hX hno, fun w => absurd rfl w⟩) (fun k hk ex => p_goes (b2 := true) (b3 := true) ⟨fun w => absurd w (by decide), fun _ => ?_⟩)
  obtain ⟨y, hy⟩ := get_ex (l := H) (k := k) hk
  rw [ex, nI_clamp (show k < 2 ^ 31 by omega), (hR k y hy).2.1]
  exact ⟨pk_in k 20 (by omega), h k y hy ex⟩
theorem p_skipped {Q : QI} {sk : Nat} (h89 : v 89 = nI sk) (h : Q (nI sk) (upd v 99 (nI 0)) f g) : r_skipped Q v f g := by
  unfold r_skipped
  rintro _ rfl
  rw [upd_n (by decide), h89]; exact h
theorem p_cached {Q : QI} {tk : Nat} (h90 : v 90 = nI tk) (h : Q (nI tk) (upd v 99 (nI 0)) f g) : r_cached Q v f g := by
  unfold r_cached
  rintro _ rfl
  rw [upd_n (by decide), h90]; exact h
end FD
