/-! the class: segments are searched -/
/-- documents from a on: those that match are held -/
def hdN (f : Nat → Option (Nat × Nat)) (mo : Nat) (H : List (Nat × Nat)) (a : Nat) : Nat → List (Nat × Nat)
  | 0 => H
  | k + 1 => match f (a + k) with
    | some x => hdL (hdN f mo H a k) mo x
    | none => hdN f mo H a k
def lrH (H : List (Nat × Nat)) : Nat := (H.getD (H.length - 1) (0, 0)).2
/-- blocks of four: held, or skipped -/
def bkS (f : Nat → Option (Nat × Nat)) (bd : Nat → Nat → Nat) (mo len : Nat) (s : List (Nat × Nat) × Nat) : Nat → List (Nat × Nat) × Nat
  | 0 => s
  | b + 1 => if mo ≤ (bkS f bd mo len s b).1.length ∧ bd (4 * b) (min len (4 * b + 4)) ≤ lrH (bkS f bd mo len s b).1 then ((bkS f bd mo len s b).1, (bkS f bd mo len s b).2 + 1) else (hdN f mo (bkS f bd mo len s b).1 (4 * b) (min len (4 * b + 4) - 4 * b), (bkS f bd mo len s b).2)
/-- what a document of a segment is held as -/
noncomputable def hfN (nd : Nat → Nd) (m w0 w1 : Nat) (rr : Nat → Nat) (sg : Nat → List Dc) (lv : Nat → Nat → Bool) (n i : Nat) : Option (Nat × Nat) := match (sg n)[i]? with
  | some d => if lv n i && (vlN nd m w0 w1 rr (sg n) i).isSome then some (dK d, (vlN nd m w0 w1 rr (sg n) i).getD 0) else none
  | none => none
noncomputable def bdS (nd : Nat → Nd) (m w0 w1 : Nat) (rr : Nat → Nat) (sg : Nat → List Dc) (n a t : Nat) : Nat := bdN nd m w0 w1 rr (fun i j => fsA (sg n) (lfD nd m i) j) a t (lfI nd m).length
theorem hdN_len {f : Nat → Option (Nat × Nat)} {mo : Nat} {H : List (Nat × Nat)} {a : Nat} (h : H.length ≤ mo) (h1 : 1 ≤ mo) : ∀ k, (hdN f mo H a k).length ≤ mo
  | 0 => h
  | k + 1 => by
    have ih := hdN_len (f := f) (a := a) h h1 k
    rw [hdN]
    cases f (a + k) with
    | none => exact ih
    | some x => exact (hdL_len ih h1).1
theorem bkS_len {f : Nat → Option (Nat × Nat)} {bd : Nat → Nat → Nat} {mo len : Nat} {s : List (Nat × Nat) × Nat} (h : s.1.length ≤ mo) (h1 : 1 ≤ mo) : ∀ b, (bkS f bd mo len s b).1.length ≤ mo
  | 0 => h
  | b + 1 => by
    have ih := bkS_len (f := f) (bd := bd) (len := len) h h1 b
    rw [bkS]
    split
    · exact ih
    · exact hdN_len ih h1 _
theorem bdN_le {nd : Nat → Nd} {m w0 w1 a t : Nat} {rr : Nat → Nat} {fA : Nat → Nat → Nat} (hw : w0 ≤ 9 ∧ w1 ≤ 9) (hrr : ∀ i, rr i ≤ 102) : ∀ k, bdN nd m w0 w1 rr fA a t k ≤ 58752 * k
  | 0 => Nat.le_refl _
  | k + 1 => by
    have ih := bdN_le (nd := nd) (m := m) (a := a) (t := t) (fA := fA) hw hrr k
    rw [bdN, Nat.mul_succ]
    split
    · omega
    · have := gvN_le (d := lfD nd m k) (c := mxB (fun j => pcN (fA k (a + j)) 20) (t - a)) hw.1 hw.2 (hrr k)
      omega
section SB
variable {S T U : cS} {ρ : Nat → Nat} {M : List Nat} {dp made V rd w0 w1 wr mo fo ro pl ra gi q m : Nat} {so : Nat → Nat} {sd : Nat → List Nat} {sg : Nat → List Dc} {ids : List Nat} {lv : Nat → Nat → Bool} {mk fs rw : Nat → Nat} {nd : Nat → Nd} {rr : Nat → Nat}
variable {fd hk hr cq cs ct cm st sp u : Nat} {cmr : Nat → Nat} {H : List (Nat × Nat)}
theorem q_searchBlocks {Q : cS → Prop} {y r n e most sk : Nat} (gk : fdK S ρ fd rd hk hr cq cs ct cm st sp cmr) (gh : fdH S fd hk hr H) (h36 : ci S 36 fd = nI sk) (hmo : 1 ≤ most ∧ most ≤ 20) (hH : H.length ≤ most) (he : e < 8) (hn : n ∈ ids) (ho : hoT S y (so n) r (sg n).length (lv n)) (ty : ρ y = 11) (tr : ρ r = 11) (g : rSt S ρ dp so sd sg made V ids lv rd w0 w1 wr mo fo ro pl ra gi mk fs rw q m nd) (hq : qOk nd m) (hl : (lfI nd m).length ≤ 24) (h1 : (qsS nd m).1 = 1) (hm : m < 100) (hw : w0 ≤ 9 ∧ w1 ≤ 9) (hrr : ∀ i, rr i ≤ 102) (hra : ∀ i, i < (lfI nd m).length → cI S ra i = nI (rr i)) (hmk : ∀ i, i < (lfI nd m).length → ∀ j, j < (sg n).length → cI S (mk i) j = nI (mkA (sg n) (lfD nd m i) j) ∧ cI S (fs i) j = nI (fsA (sg n) (lfD nd m i) j)) (hcm : ∀ j, j < (sg n).length → cI S (cmr e) j = bI (vlN nd m w0 w1 rr (sg n) j).isSome) (h : ∀ T, fk S T ρ ρ [21, 28, 29, 18, 27] → (∀ z, cr T z fd = cr S z fd) → (∀ z, z ≠ 33 → z ≠ 36 → ci T z fd = ci S z fd) → fdH T fd hk hr (bkS (hfN nd m w0 w1 rr sg lv n) (bdS nd m w0 w1 rr sg n) most (sg n).length (H, sk) (((sg n).length + 3) / 4)).1 → ci T 36 fd = nI (bkS (hfN nd m w0 w1 rr sg lv n) (bdS nd m w0 w1 rr sg n) most (sg n).length (H, sk) (((sg n).length + 3) / 4)).2 → Q T) : k_X1_searchBlocks Q dp fd q y (cmr e) (nI most) S := by
  have gS := g.1 n (g.2.1 n hn)
  have hK : (sg n).length ≤ 100 := gS.2.2.2.2.2.1
  obtain ⟨len, hlen⟩ : ∃ len, len = (sg n).length := ⟨_, rfl⟩
  obtain ⟨f, hf⟩ : ∃ f, f = hfN nd m w0 w1 rr sg lv n := ⟨_, rfl⟩
  obtain ⟨bd, hbd⟩ : ∃ bd, bd = bdS nd m w0 w1 rr sg n := ⟨_, rfl⟩
  rw [← hlen, ← hf, ← hbd] at h
  have cm0 := gk.2.2.2.2.2.2.2.2.1.2.2.2.2.1 e he
  -- what stays
  have st : ∀ {S' : cS}, fk S S' ρ ρ [21, 28, 29, 18, 27] → (∀ z, cr S' z fd = cr S z fd) → fdK S' ρ fd rd hk hr cq cs ct cm st sp cmr ∧ rSt S' ρ dp so sd sg made V ids lv rd w0 w1 wr mo fo ro pl ra gi mk fs rw q m nd ∧ hoT S' y (so n) r (sg n).length (lv n) ∧ (∀ i, i < (lfI nd m).length → cI S' ra i = nI (rr i)) ∧ (∀ i, i < (lfI nd m).length → ∀ j, j < (sg n).length → cI S' (mk i) j = nI (mkA (sg n) (lfD nd m i) j) ∧ cI S' (fs i) j = nI (fsA (sg n) (lfD nd m i) j)) ∧ cA S' (cmr e) 14 ∧ cn S' (cmr e) = 100 ∧ ∀ j, j < (sg n).length → cI S' (cmr e) j = bI (vlN nd m w0 w1 rr (sg n) j).isSome := fun f' r' => by
    have q1 := g.2.2.2.1.2.2.2.2.2.2.2.1
    have q2 := g.2.2.2.1.2.2.2.1.2.2.2.2.1
    have q3 := g.2.2.2.1.2.2.2.2.1.2.2.2.2.1
    refine ⟨fdK_fk f' (by decide) r' gk, rSt_fk f' (by decide) g, hoT_sub f'.1.1 ho (by rw [ty]; decide) (by rw [tr]; decide), fun i hi => ?_, fun i hi j hj => ?_, fr_A f'.1 cm0.2.1, (sub_cn f'.1.1 cm0.2.1).trans cm0.2.2.1, fun j hj => ?_⟩
    · rw [sub_cI f'.1.1 q1.2.1 (by rw [q1.2.2.2]; decide)]; exact hra i hi
    · have a1 := q2 i (by omega)
      have a2 := q3 i (by omega)
      rw [sub_cI f'.1.1 a1.2.1 (by rw [a1.2.2.2]; decide), sub_cI f'.1.1 a2.2.1 (by rw [a2.2.2.2]; decide)]; exact hmk i hi j hj
    · rw [sub_cI f'.1.1 cm0.2.1 (by rw [cm0.2.2.2]; decide)]; exact hcm j hj
  unfold k_X1_searchBlocks
  refine ⟨ho.1, so n, ho.2.1, gS.1.1, q_sgSize gS.1 ⟨cm0.2.1, ?_⟩⟩
  rw [cm0.2.2.1, nI_mn (by decide) (by omega), show min 100 (sg n).length = len by omega]
  rintro _ rfl
  unfold k_X1_searchBlocks_17L
  refine lfp_cnt ((len + 3) / 4) (fun b y' => ∃ S', fk S S' ρ ρ [21, 28, 29, 18, 27] ∧ (∀ z, cr S' z fd = cr S z fd) ∧ (∀ z, z ≠ 33 → z ≠ 36 → ci S' z fd = ci S z fd) ∧ fdH S' fd hk hr (bkS f bd most len (H, sk) b).1 ∧ ci S' 36 fd = nI (bkS f bd most len (H, sk) b).2 ∧ y' = (fd, q, y, cmr e, nI most, nI len, nI (4 * b), S')) ?_ ⟨S, fk_rf, fun _ => rfl, fun _ _ _ => rfl, gh, h36, rfl⟩
  rintro P b _ hb ⟨S', f', r', i', gh', sk', rfl⟩ ih
  show k_X1_searchBlocks_17 Q dp _ fd q y (cmr e) (nI most) (nI len) (nI (4 * b)) S'
  obtain ⟨gk', g', ho', ra', mk', cA', cN', cm'⟩ := st f' r'
  obtain ⟨s, hs⟩ : ∃ s, s = bkS f bd most len (H, sk) b := ⟨_, rfl⟩
  rw [← hs] at gh' sk'
  have sl : s.1.length ≤ most := by rw [hs]; exact bkS_len hH hmo.1 b
  unfold k_X1_searchBlocks_17
  refine pk_le len (4 * b) (fun z => ?_) (fun z => ?_)
  · obtain rfl : b = (len + 3) / 4 := by omega
    rw [hs] at gh' sk'
    exact h S' f' r' i' gh' sk'
  rw [nI_add, nI_mn (by omega) (by omega)]
  rintro _ rfl
  obtain ⟨t, ht⟩ : ∃ t, t = min len (4 * b + 4) := ⟨_, rfl⟩
  rw [← ht]
  have next : ∀ {S2 : cS}, fk S S2 ρ ρ [21, 28, 29, 18, 27] → (∀ z, cr S2 z fd = cr S z fd) → (∀ z, z ≠ 33 → z ≠ 36 → ci S2 z fd = ci S z fd) → fdH S2 fd hk hr (bkS f bd most len (H, sk) (b + 1)).1 → ci S2 36 fd = nI (bkS f bd most len (H, sk) (b + 1)).2 → k_X1_searchBlocks_157 Q dp (fun b0 b1 b2 b3 b4 b5 b6 S => P (b0, b1, b2, b3, b4, b5, b6, S)) fd q y (cmr e) (nI most) (nI len) (nI (4 * b)) S2 := by
    intro S2 f2 r2 i2 gh2 sk2
    unfold k_X1_searchBlocks_157
    rintro _ rfl
    rw [nI_add]
    exact ih _ (by omega) ⟨S2, f2, r2, i2, gh2, sk2, rfl⟩
  -- the block is read
  have read : ¬ (most ≤ s.1.length ∧ bd (4 * b) t ≤ lrH s.1) → k_X1_searchBlocks_90 Q dp (fun b0 b1 b2 b3 b4 b5 b6 S => P (b0, b1, b2, b3, b4, b5, b6, S)) fd q y (cmr e) (nI most) (nI len) (nI (4 * b)) (nI t) S' := by
    intro hno
    have eb : bkS f bd most len (H, sk) (b + 1) = (hdN f most s.1 (4 * b) (t - 4 * b), s.2) := by rw [bkS, ← hs, ← ht, if_neg hno]
    rw [eb] at next
    unfold k_X1_searchBlocks_90 k_X1_searchBlocks_94L
    refine lfp_cnt (t - 4 * b) (fun k y' => ∃ S2, fk S' S2 ρ ρ [21, 28, 29, 18, 27] ∧ (∀ z, cr S2 z fd = cr S' z fd) ∧ (∀ z, z ≠ 33 → ci S2 z fd = ci S' z fd) ∧ fdH S2 fd hk hr (hdN f most s.1 (4 * b) k) ∧ y' = (fd, q, y, cmr e, nI most, nI len, nI (4 * b), nI t, nI (4 * b + k), S2)) ?_ ⟨S', fk_rf, fun _ => rfl, fun _ _ => rfl, gh', rfl⟩
    rintro P2 k _ hk2 ⟨S2, f2, r2, i2, gh2, rfl⟩ ih2
    show k_X1_searchBlocks_94 Q dp _ _ fd q y (cmr e) (nI most) (nI len) (nI (4 * b)) (nI t) (nI (4 * b + k)) S2
    have f02 := fk_s f' f2
    have r02 : ∀ z, cr S2 z fd = cr S z fd := fun z => (r2 z).trans (r' z)
    obtain ⟨gk2, g2, ho2, ra2, mk2, cA2, cN2, cm2⟩ := st f02 r02
    have hl2 : (hdN f most s.1 (4 * b) k).length ≤ most := hdN_len sl hmo.1 k
    unfold k_X1_searchBlocks_94
    refine pk_le t (4 * b + k) (fun z2 => ?_) (fun z2 => ⟨ho2.1, q_isLive ho2 (by omega) ?_⟩)
    · obtain rfl : k = t - 4 * b := by omega
      exact next f02 r02 (fun z z3 z4 => (i2 z z3).trans (i' z z3 z4)) gh2 ((i2 36 (by decide)).trans sk')
    have jl : 4 * b + k < (sg n).length := by omega
    rw [decide_eq_true jl, Bool.true_and]
    obtain ⟨d, hd⟩ := get_ex (l := sg n) (k := 4 * b + k) jl
    have fe : f (4 * b + k) = if lv n (4 * b + k) && (vlN nd m w0 w1 rr (sg n) (4 * b + k)).isSome then some (dK d, (vlN nd m w0 w1 rr (sg n) (4 * b + k)).getD 0) else none := by rw [hf]; unfold hfN; rw [hd]
    have stop : ∀ {S3 : cS}, fk S2 S3 ρ ρ [21, 28, 29, 18, 27] → (∀ z, cr S3 z fd = cr S2 z fd) → (∀ z, z ≠ 33 → ci S3 z fd = ci S2 z fd) → fdH S3 fd hk hr (hdN f most s.1 (4 * b) (k + 1)) → k_X1_searchBlocks_151 Q dp (fun b0 b1 b2 b3 b4 b5 b6 S => P (b0, b1, b2, b3, b4, b5, b6, S)) (fun b0 b1 b2 b3 b4 b5 b6 b7 b8 S => P2 (b0, b1, b2, b3, b4, b5, b6, b7, b8, S)) fd q y (cmr e) (nI most) (nI len) (nI (4 * b)) (nI t) (nI (4 * b + k)) S3 := by
      intro S3 f3 r3 i3 gh3
      unfold k_X1_searchBlocks_151
      rintro _ rfl
      rw [nI_add]
      exact ih2 _ (by omega) ⟨S3, fk_s f2 f3, fun z => (r3 z).trans (r2 z), fun z hz => (i3 z hz).trans (i2 z hz), gh3, rfl⟩
    refine w_b0 (lv n (4 * b + k)) (fun el => stop fk_rf (fun _ => rfl) (fun _ _ => rfl) ?_) (fun el => ⟨cX_mk cA2 cN2 (by decide) (show 4 * b + k < 100 by omega) rfl, ?_⟩)
    · rw [hdN, fe, el, Bool.false_and]; exact gh2
    rw [nI_clamp (show 4 * b + k < 2 ^ 31 by omega), cm2 _ jl]
    refine w_b0 (vlN nd m w0 w1 rr (sg n) (4 * b + k)).isSome (fun ev => stop fk_rf (fun _ => rfl) (fun _ _ => rfl) ?_) (fun ev => ?_)
    · rw [hdN, fe, ev, Bool.and_false]; exact gh2
    have gS2 := g2.1 n (g2.2.1 n hn)
    obtain ⟨q1, q2, q3, ⟨dl, md, q4, q5⟩, q6⟩ := id gS2.1
    obtain ⟨D, hD⟩ := get_ex (l := sd n) (k := 4 * b + k) (by omega)
    obtain ⟨DA, Dk, Db⟩ := q6 _ D d hD hd
    refine ⟨ho2.1, so n, ho2.2.1, q1, dl, q4, q5.1, q_lget q5 hD ⟨DA, DA, gk2.1, rd, gk2.2.2.1, g2.2.2.2.1.1, ?_⟩⟩
    refine q_valueAt (rr := rr) (mA := fun i => mkA (sg n) (lfD nd m i) (4 * b + k)) g2.2.2.2.1 g2.2.2.2.2 hq h1 hl (by decide) (by decide) hm hw hrr (by omega) (fun i hi => ⟨(mk2 i hi _ jl).1, ?_⟩) ra2 (fun S5 f5 => ?_)
    · show mkA (sg n) (lfD nd m i) (4 * b + k) < 2 ^ 20
      unfold mkA
      split
      · exact cpF_lt
      · exact tdK_lt (tlD_ok gS.2.2.2.2.1 _ _).1.2.1
    have ev2 : evS nd (gvF nd m w0 w1 rr (fun i => mkA (sg n) (lfD nd m i) (4 * b + k))) m 0 = vlN nd m w0 w1 rr (sg n) (4 * b + k) := rfl
    have vb := vl_lt (mA := fun i => mkA (sg n) (lfD nd m i) (4 * b + k)) hq h1 hl hw hrr
    rw [ev2] at vb ⊢
    cases e3 : vlN nd m w0 w1 rr (sg n) (4 * b + k) with
    | none => rw [e3] at ev; exact absurd ev (by decide)
    | some v =>
      rw [e3] at vb fe
      rw [Dk, show cIn (some v) = nI v from rfl]
      replace vb : v ≤ 1410048 := vb
      have f5' : fk S2 S5 ρ ρ [18, 27] := fr_fk f5 (by decide)
      have n5 : ρ fd ∉ [18, 27] := by rw [gk2.2.1]; decide
      have gk5 := fdK_fk f5' (by decide) (fun z => fr_cr f5 gk2.1 n5) gk2
      obtain ⟨t1, t2, t3⟩ := gh2
      have gh5 : fdH S5 fd hk hr (hdN f most s.1 (4 * b) k) := by
        refine ⟨(fr_ci f5 gk2.1 n5).trans t1, t2, ?_⟩
        have kR := gk2.2.2.2.1
        have rR := gk2.2.2.2.2.1
        rw [sub_cI f5.1 kR.2.1 (by rw [kR.2.2.2]; decide), sub_cI f5.1 rR.2.1 (by rw [rR.2.2.2]; decide)]
        exact t3
      refine ⟨gk5.1, q_hold gk5.1 gk5.2.1 gk5.2.2.2.1 gk5.2.2.2.2.1 gh5 hmo hl2 (by omega) (by omega) (fun S6 f6 r6 i6 gh6 => ?_)⟩
      refine stop (fk_s (fk_up f5' (by decide)) (fk_up f6 (by decide))) (fun z => (r6 z).trans (fr_cr f5 gk2.1 n5)) (fun z hz => (i6 z hz).trans (fr_ci f5 gk2.1 n5)) ?_
      rw [hdN, fe, el]
      exact gh6
  refine ⟨gk'.1, ?_⟩
  rw [gh'.1]
  refine pk_le s.1.length 0 (fun z2 => read (fun w => by omega)) (fun z2 => ⟨gk'.1, pk_lt s.1.length most (fun z3 => read (fun w => by omega)) (fun z3 => ⟨gk'.1, rd, gk'.2.2.1, g'.2.2.2.1.1, ?_⟩)⟩)
  refine q_boundOf (rr := rr) (fA := fun i j => fsA (sg n) (lfD nd m i) j) g'.2.2.2.1 g'.2.2.2.2 hq hl ⟨by omega, by omega⟩ (fun i j hi hj => ⟨(mk' i hi j (by omega)).2, ?_⟩) ra' ?_
  · show fsA (sg n) (lfD nd m i) j < 2 ^ 20
    unfold fsA
    split
    · exact mF_lt gS.2.2.2.2.1
    · exact tdK_lt (tlD_ok gS.2.2.2.2.1 _ _).1.2.1
  have ebd : bdN nd m w0 w1 rr (fun i j => fsA (sg n) (lfD nd m i) j) (4 * b) t (lfI nd m).length = bd (4 * b) t := by rw [hbd]; rfl
  have bb := bdN_le (nd := nd) (m := m) (a := 4 * b) (t := t) (fA := fun i j => fsA (sg n) (lfD nd m i) j) hw hrr (lfI nd m).length
  rw [ebd] at bb ⊢
  have hrR := gk'.2.2.2.2.1
  have hx := gH_get (show s.1.length - 1 < s.1.length by omega)
  have hxx := gh'.2.2 _ _ hx
  rw [gh'.1, pk_sub (by omega)]
  refine ⟨gk'.1, hr, hrR.1, gk'.1, cX_mk hrR.2.1 hrR.2.2.1 (by decide) (show s.1.length - 1 < 20 by omega) rfl, ?_⟩
  rw [nI_clamp (show s.1.length - 1 < 2 ^ 31 by omega), hxx.2.1]
  have el : (s.1.getD (s.1.length - 1) (0, 0)).2 = lrH s.1 := rfl
  refine pk_lt (s.1.getD (s.1.length - 1) (0, 0)).2 (bd (4 * b) t) (fun z4 => read (fun w => by omega)) (fun z4 => ⟨gk'.1, gk'.1, fun S17 e17 => ?_⟩)
  have eb : bkS f bd most len (H, sk) (b + 1) = (s.1, s.2 + 1) := by rw [bkS, ← hs, ← ht, if_pos ⟨by omega, by omega⟩]
  rw [eb] at next
  rw [sk', nI_add] at e17
  have s17 : cSub S' S17 (fun z => z = fd) := e17 ▸ sub_Si rfl
  refine next (fk_s f' (fk_up (fk_of s17 (M := [21]) (fun a _ w => by rw [w, gk'.2.1]; decide) (by decide)) (by decide))) (fun z => by rw [e17]; exact r' z) (fun z z5 z6 => by rw [e17]; exact (mU_nq z6).trans (i' z z5 z6)) ⟨?_, gh'.2.1, ?_⟩ (hi_Si_s e17)
  · exact hi_Si_q e17 (by decide) gh'.1
  · rw [e17]; exact gh'.2.2
end SB
