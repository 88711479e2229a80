/-! the reference: a segment is searched by blocks -/
/-- what a search reads -/
def rFc (v : Nat → Int32) (f : Nat → Nat → Int32) (g : Nat → Nat → Int64) (l : LGt) (made dn : Nat) (sg : Nat → List Dc) (hd : Nat → Nat → Nat) (sl : Nat → Option (Nat × Vw)) (q m : Nat) (nd : Nat → Nd) (w0 w1 : Nat) (rr : Nat → Nat) : Prop := rLg v g l ∧ rSg l v f g made dn sg hd ∧ rLk f made sg sl ∧ f 48 q = nI m ∧ (∀ j, j < m → rNd f g (48 * q + j) (nd j)) ∧ (∀ j, j < m → nLf (nd j) = true → f 55 j = nI (gnN w0 w1 (nd j) (rr (lfI nd j).length))) ∧ ∀ j, j < m → f 56 j = bI ((qsS nd m).2.2 j)
/-- what a search asks -/
def pFc (g : Nat → Nat → Int64) (l : LGt) (sl : Nat → Option (Nat × Vw)) (a k : Nat) (s : Vw) (q m : Nat) (nd : Nat → Nd) (w0 w1 : Nat) (rr : Nat → Nat) : Prop := scW l ∧ mPow g ∧ a < 5 ∧ sl a = some (k, s) ∧ q < 40 ∧ m ≤ 48 ∧ qOk nd m ∧ (∀ j, j < m → ndG (nd j)) ∧ (qsS nd m).1 = 1 ∧ (lfI nd m).length ≤ 24 ∧ (w0 ≤ 9 ∧ w1 ≤ 9) ∧ ∀ i, rr i ≤ 102
/-- these rows alone were written -/
def fdF (f f' : Nat → Nat → Int32) : Prop := ∀ n, n ∉ [52, 53, 54, 57, 58, 59, 60] → f' n = f n
theorem fdF_rf {f : Nat → Nat → Int32} : fdF f f := fun _ _ => rfl
theorem fdF_tr {f f' f'' : Nat → Nat → Int32} (h : fdF f f') (h2 : fdF f' f'') : fdF f f'' := fun n hn => (h2 n hn).trans (h n hn)
theorem fdF_S3 {f f' : Nat → Nat → Int32} (h : rS3 f f') : fdF f f' := fun n hn => h n (fun e => hn (by rw [e]; decide)) (fun e => hn (by rw [e]; decide)) (fun e => hn (by rw [e]; decide))
section FI
variable {v v' : Nat → Int32} {f f' : Nat → Nat → Int32} {g g' : Nat → Nat → Int64} {l : LGt} {made dn : Nat} {sg : Nat → List Dc} {hd : Nat → Nat → Nat} {sl : Nat → Option (Nat × Vw)} {a k q m w0 w1 : Nat} {s : Vw} {nd : Nat → Nd} {rr : Nat → Nat}
theorem rFc_fr (hv : ∀ i, i ∉ [85, 88, 89, 90] → v' i = v i) (hf : fdF f f') (h : rFc v f g l made dn sg hd sl q m nd w0 w1 rr) : rFc v' f' g l made dn sg hd sl q m nd w0 w1 rr := by
  obtain ⟨h1, h2, h3, h4, h5, h6, h7⟩ := h
  refine ⟨rLg_fr (hv 9 (by decide)) (hv 6 (by decide)) rfl rfl rfl h1, ?_, rLk_fr (hf 29 (by decide)) (hf 30 (by decide)) (hf 31 (by decide)) (hf 32 (by decide)) h3, by rw [hf 48 (by decide)]; exact h4, fun j hj => ?_, by rw [hf 55 (by decide)]; exact h6, by rw [hf 56 (by decide)]; exact h7⟩
  · unfold rSg
    rw [hv 29 (by decide), hv 26 (by decide), hf 20 (by decide), hf 19 (by decide), hf 14 (by decide), hf 15 (by decide), hf 16 (by decide), hf 18 (by decide)]; exact h2
  · refine rNd_cp (h5 j hj) ?_ ?_ ?_ ?_ ?_ (fun _ _ => rfl) (fun i _ => ?_) (fun i _ => ?_)
    · rw [hf 40 (by decide)]
    · rw [hf 41 (by decide)]
    · rw [hf 42 (by decide)]
    · rw [hf 43 (by decide)]
    · rw [hf 44 (by decide)]
    · rw [hf 46 (by decide)]
    · rw [hf 47 (by decide)]
theorem vlN_O {L : List Dc} {j : Nat} {e : Dc} (h : L[j]? = some e) : vlN nd m w0 w1 rr L j = evS nd (gvF nd m w0 w1 rr (fun i => mkO e (lfD nd m i))) m 0 := by
  unfold vlN
  have : (fun i => mkA L (lfD nd m i) j) = fun i => mkO e (lfD nd m i) := by
    funext i
    exact mkA_O h
  rw [this]
theorem p_find_docs {Q : QI} {R74 : Int32 → Int32 → Int32 → Int32 → QV} {R129 : Int32 → Int32 → Int32 → Int32 → Int32 → Int32 → QV} {mo n b t : Nat} {x5 x7 : Int32} {H : List (Nat × Nat)} (hc : rFc v f g l made dn sg hd sl q m nd w0 w1 rr) (hp : pFc g l sl a k s q m nd w0 w1 rr) (hmo : 1 ≤ mo ∧ mo ≤ 20) (hl : H.length ≤ mo) (hH : rHt v f H) (hn : n ∈ s.1) (hbt : b ≤ t) (ht : t ≤ (sg n).length) (h : ∀ v' f', (∀ i, i ≠ 88 → v' i = v i) → fdF f f' → f' 57 = f 57 → f' 58 = f 58 → rHt v' f' (hdN (hfN nd m w0 w1 rr sg s.2 n) mo H b (t - b)) → R129 (nI q) (nI mo) (nI a) x5 (nI n) (x7 + nI 4) v' f' g) : r_find_232L Q R74 R129 (nI q) (nI mo) (nI a) x5 (nI n) x7 (nI (100 * n + t)) (nI (100 * n + b)) v f g := by
  obtain ⟨hS, hpw, a5, hsl, q40, m48, hq, hG, h1, hlf, hw, hrr⟩ := hp
  obtain ⟨-, ⟨⟨-, m201⟩, ⟨-, d12⟩, -⟩, hk0, -⟩ := id hc
  obtain ⟨-, -, -, hids, hlv⟩ := (hk0 a a5).2 (k, s) hsl
  obtain ⟨jn', hjn⟩ := List.mem_iff_getElem?.mp hn
  have nm := (hids jn' n hjn).2
  have l100 := (hc.2.1.2.2 n nm).2.1
  unfold r_find_232L
  refine lfp_cnt (t - b) (fun i y => ∃ v' f', (∀ i, i ≠ 88 → v' i = v i) ∧ fdF f f' ∧ f' 57 = f 57 ∧ f' 58 = f 58 ∧ rHt v' f' (hdN (hfN nd m w0 w1 rr sg s.2 n) mo H b i) ∧ y = (nI q, nI mo, nI a, x5, nI n, x7, nI (100 * n + t), nI (100 * n + (b + i)), v', f', g)) ?_ ⟨v, f, fun _ _ => rfl, fdF_rf, rfl, rfl, hH, rfl⟩
  rintro P i _ hi ⟨v', f', a1, a2, a3, a4, a6, rfl⟩ ih
  show r_find_232 Q R74 R129 _ (nI q) (nI mo) (nI a) x5 (nI n) x7 (nI (100 * n + t)) (nI (100 * n + (b + i))) v' f' g
  have hc2 : rFc v' f' g l made dn sg hd sl q m nd w0 w1 rr := rFc_fr (fun i hi => a1 i (fun e => hi (by rw [e]; decide))) a2 hc
  obtain ⟨g1, g2, g3, g4, g5, g6, g7⟩ := id hc2
  have dc' : (nI (100 * n + (b + i))).toNatClampNeg = 100 * n + (b + i) := nI_clamp (by omega)
  unfold r_find_232
  refine pk_le (100 * n + t) (100 * n + (b + i)) (fun z => ?_) (fun z => ?_)
  · obtain rfl : i = t - b := by omega
    unfold r_find_300
    rintro _ rfl
    exact h v' f' a1 a2 a3 a4 a6
  obtain ⟨e, he⟩ := get_ex (l := sg n) (k := b + i) (by omega)
  have e32 := ((g3 a a5).2 (k, s) hsl).2.2.2.2 n hn (b + i) (by omega)
  have din : vp_in (nI (100 * n + (b + i))) 20200 := pk_in (100 * n + (b + i)) 20200 (by omega)
  obtain ⟨e19, hlt, hdc⟩ := (g2.2.2 n nm).2.2 (b + i) e he
  obtain ⟨vl, hvl⟩ : ∃ vl, vl = vlN nd m w0 w1 rr (sg n) (b + i) := ⟨_, rfl⟩
  have vB : vl.getD 0 < 2 ^ 31 := by
    have := vl_lt (mA := fun i' => mkA (sg n) (lfD nd m i') (b + i)) hq h1 hlf hw hrr
    rw [hvl]
    unfold vlN
    omega
  have hfE : hfN nd m w0 w1 rr sg s.2 n (b + i) = if s.2 n (b + i) && vl.isSome then some (dK e, vl.getD 0) else none := by
    unfold hfN
    rw [he, hvl]
  have nx : ∀ v6 f6, (∀ i, i ≠ 88 → v6 i = v i) → fdF f f6 → f6 57 = f 57 → f6 58 = f 58 → rHt v6 f6 (hdN (hfN nd m w0 w1 rr sg s.2 n) mo H b (i + 1)) → r_find_294 Q R74 R129 (fun b0 b1 b2 b3 b4 b5 b6 b7 v f g => P (b0, b1, b2, b3, b4, b5, b6, b7, v, f, g)) (nI q) (nI mo) (nI a) x5 (nI n) x7 (nI (100 * n + t)) (nI (100 * n + (b + i))) v6 f6 g := by
    intro v6 f6 b1 b2 b3 b4 b6
    unfold r_find_294
    rintro _ rfl
    rw [nI_add]
    exact ih _ (by omega) ⟨v6, f6, b1, b2, b3, b4, b6, by rw [Nat.add_assoc, Nat.add_assoc]⟩
  have none' : hfN nd m w0 w1 rr sg s.2 n (b + i) = none → hdN (hfN nd m w0 w1 rr sg s.2 n) mo H b (i + 1) = hdN (hfN nd m w0 w1 rr sg s.2 n) mo H b i := fun z2 => by rw [hdN, z2]
  have some' : ∀ x, hfN nd m w0 w1 rr sg s.2 n (b + i) = some x → hdN (hfN nd m w0 w1 rr sg s.2 n) mo H b (i + 1) = hdL (hdN (hfN nd m w0 w1 rr sg s.2 n) mo H b i) mo x := fun x z2 => by rw [hdN, z2]
  rw [pk_mul, nI_add, nI_clamp (show 20200 * a + (100 * n + (b + i)) < 2 ^ 31 by omega), e32, dc', e19]
  refine ⟨pk_in (20200 * a + (100 * n + (b + i))) 101000 (by omega), w_B0 (fun c => ?_) (fun c => ⟨din, ?_⟩)⟩
  · unfold r_find_272
    refine ⟨fun _ => nx v' f' a1 a2 a3 a4 ?_, fun w => absurd rfl w⟩
    rw [none' (by rw [hfE, c]; rfl)]; exact a6
  · refine p_gives1 g1 hS (by omega) hdc.2.2.2 (by omega) g4 m48 g5 hq hG (by omega) hlf hw hrr g6 hpw (fun f3 s3 => ?_)
    rw [← vlN_O he, ← hvl]
    have ff := fdF_tr a2 (fdF_S3 s3)
    have f57 : f3 57 = f 57 := (s3 57 (by decide) (by decide) (by decide)).trans a3
    have f58 : f3 58 = f 58 := (s3 58 (by decide) (by decide) (by decide)).trans a4
    have hH3 : rHt v' f3 (hdN (hfN nd m w0 w1 rr sg s.2 n) mo H b i) := rHt_fr rfl (s3 59 (by decide) (by decide) (by decide)) (s3 60 (by decide) (by decide) (by decide)) a6
    unfold r_find_272
    refine (w_ci vB (fun r hr => ⟨din, ?_⟩) (fun hr => nx v' f3 a1 ff f57 f58 ?_)).symm
    · rw [none' (by rw [hfE, c, hr]; rfl)]; exact hH3
    · rw [hr, cIn_sm, dc', s3 19 (by decide) (by decide) (by decide), e19]
      rw [hr] at vB
      have hlen := hdN_len (f := hfN nd m w0 w1 rr sg s.2 n) (a := b) hl hmo.1 i
      refine p_holds (by omega) (by rw [s3 14 (by decide) (by decide) (by decide)]; exact hdc.1.1) vB hmo hlen hH3 (fun v6 f6 b1 b2 b3 => ?_)
      refine nx v6 f6 (fun j hj => (b1 j hj).trans (a1 j hj)) (fdF_tr ff (fun j hj => b2 j (fun e => hj (by rw [e]; decide)) (fun e => hj (by rw [e]; decide)))) ((b2 57 (by decide) (by decide)).trans f57) ((b2 58 (by decide) (by decide)).trans f58) ?_
      rw [some' (dK e, r) (by rw [hfE, c, hr]; rfl)]; exact b3
theorem p_find_blocks {Q : QI} {R74 : Int32 → Int32 → Int32 → Int32 → QV} {mo n sk : Nat} {x5 : Int32} {H : List (Nat × Nat)} (hc : rFc v f g l made dn sg hd sl q m nd w0 w1 rr) (hp : pFc g l sl a k s q m nd w0 w1 rr) (hmo : 1 ≤ mo ∧ mo ≤ 20) (hl : H.length ≤ mo) (hH : rHt v f H) (h89 : v 89 = nI sk) (hn : n ∈ s.1) (h : ∀ v' f', (∀ i, i ≠ 88 → i ≠ 89 → v' i = v i) → fdF f f' → f' 57 = f 57 → f' 58 = f 58 → rHt v' f' (bkS (hfN nd m w0 w1 rr sg s.2 n) (bdS nd m w0 w1 rr sg n) mo (sg n).length (H, sk) (((sg n).length + 3) / 4)).1 → v' 89 = nI (bkS (hfN nd m w0 w1 rr sg s.2 n) (bdS nd m w0 w1 rr sg n) mo (sg n).length (H, sk) (((sg n).length + 3) / 4)).2 → R74 (nI q) (nI mo) (nI a) (x5 + nI 1) v' f' g) : r_find_129L Q R74 (nI q) (nI mo) (nI a) x5 (nI n) (nI 0) v f g := by
  obtain ⟨hS, hpw, a5, hsl, q40, m48, hq, hG, h1, hlf, hw, hrr⟩ := id hp
  obtain ⟨-, ⟨⟨-, m201⟩, ⟨-, d12⟩, -⟩, hk0, -⟩ := id hc
  obtain ⟨-, -, -, hids, hlv⟩ := (hk0 a a5).2 (k, s) hsl
  obtain ⟨jn', hjn⟩ := List.mem_iff_getElem?.mp hn
  have nm := (hids jn' n hjn).2
  have l100 := (hc.2.1.2.2 n nm).2.1
  obtain ⟨hf, hhf⟩ : ∃ hf, hf = hfN nd m w0 w1 rr sg s.2 n := ⟨_, rfl⟩
  obtain ⟨bd, hbd⟩ : ∃ bd, bd = bdS nd m w0 w1 rr sg n := ⟨_, rfl⟩
  rw [← hhf, ← hbd] at h
  have bd31 : ∀ a t, bd a t < 2 ^ 31 := fun a t => by
    rw [hbd]
    unfold bdS
    have := bdN_le (nd := nd) (m := m) (a := a) (t := t) (fA := fun i j => fsA (sg n) (lfD nd m i) j) hw hrr (lfI nd m).length
    have : 58752 * (lfI nd m).length ≤ 58752 * 24 := Nat.mul_le_mul_left _ hlf
    omega
  unfold r_find_129L
  refine lfp_cnt (((sg n).length + 3) / 4) (fun b y => ∃ v' f', (∀ i, i ≠ 88 → i ≠ 89 → v' i = v i) ∧ fdF f f' ∧ f' 57 = f 57 ∧ f' 58 = f 58 ∧ rHt v' f' (bkS hf bd mo (sg n).length (H, sk) b).1 ∧ v' 89 = nI (bkS hf bd mo (sg n).length (H, sk) b).2 ∧ y = (nI q, nI mo, nI a, x5, nI n, nI (4 * b), v', f', g)) ?_ ⟨v, f, fun _ _ _ => rfl, fdF_rf, rfl, rfl, hH, h89, rfl⟩
  rintro P b _ hb ⟨v', f', a1, a2, a3, a4, a6, a7, rfl⟩ ih
  show r_find_129 Q R74 _ (nI q) (nI mo) (nI a) x5 (nI n) (nI (4 * b)) v' f' g
  have hc2 : rFc v' f' g l made dn sg hd sl q m nd w0 w1 rr := rFc_fr (fun i hi => a1 i (fun e => hi (by rw [e]; decide)) (fun e => hi (by rw [e]; decide))) a2 hc
  obtain ⟨g1, g2, g3, g4, g5, g6, g7⟩ := id hc2
  obtain ⟨e20, -, -⟩ := g2.2.2 n nm
  have nin : vp_in (nI n) 202 := pk_in n 202 (by omega)
  have nc : (nI n).toNatClampNeg = n := nI_clamp (by omega)
  have hHl := bkS_len (f := hf) (bd := bd) (len := (sg n).length) (s := (H, sk)) hl hmo.1 b
  obtain ⟨B, hB⟩ : ∃ B, B = bkS hf bd mo (sg n).length (H, sk) b := ⟨_, rfl⟩
  rw [← hB] at a6 a7 hHl
  unfold r_find_129
  rw [nc, e20, pk_mul, nI_add]
  refine ⟨nin, pk_le (sg n).length (4 * b) (fun z => ?_) (fun z => ?_)⟩
  · obtain rfl : b = ((sg n).length + 3) / 4 := by omega
    rintro _ rfl
    exact h v' f' a1 a2 a3 a4 (by rw [← hB]; exact a6) (by rw [← hB]; exact a7)
  intro x8 ex8
  rw [ex8, pk_sub (show 4 * b ≤ (sg n).length by omega)]
  obtain ⟨t, ht⟩ : ∃ t, t = min (sg n).length (4 * b + 4) := ⟨_, rfl⟩
  have bs : bkS hf bd mo (sg n).length (H, sk) (b + 1) = if mo ≤ B.1.length ∧ bd (4 * b) t ≤ lrH B.1 then (B.1, B.2 + 1) else (hdN hf mo B.1 (4 * b) (t - 4 * b), B.2) := by rw [bkS, ← hB, ← ht]
  have main : ∀ d : Nat, 4 * b + d = t → r_find_181 Q R74 (fun b0 b1 b2 b3 b4 b5 v f g => P (b0, b1, b2, b3, b4, b5, v, f, g)) (nI q) (nI mo) (nI a) x5 (nI n) (nI (4 * b)) (nI (100 * n + 4 * b)) (nI d) (nI (100 * n + 4 * b)) v' f' g := by
    intro d hd2
    unfold r_find_181
    rw [nI_add]
    intro x9 ex9
    rw [ex9, show 100 * n + 4 * b + d = 100 * n + t by omega, a6.1]
    have read : ∀ f3, rS2 f' f3 → ¬ (mo ≤ B.1.length ∧ bd (4 * b) t ≤ lrH B.1) → r_find_228 Q R74 (fun b0 b1 b2 b3 b4 b5 v f g => P (b0, b1, b2, b3, b4, b5, v, f, g)) (nI q) (nI mo) (nI a) x5 (nI n) (nI (4 * b)) (nI (100 * n + 4 * b)) (nI (100 * n + t)) v' f3 g := by
      intro f3 s3 hno
      unfold r_find_228
      have ff : fdF f' f3 := fdF_S3 (rS3_2 s3)
      refine p_find_docs (rFc_fr (fun _ _ => rfl) ff hc2) hp hmo hHl (rHt_fr rfl (s3 59 (by decide) (by decide)) (s3 60 (by decide) (by decide)) a6) hn (by omega) (by omega) (fun v6 f6 b1 b2 b3 b4 b5 => ?_)
      rw [nI_add]
      refine ih _ (by omega) ⟨v6, f6, fun i h1 h2 => (b1 i h1).trans (a1 i h1 h2), fdF_tr a2 (fdF_tr ff b2), (b3.trans (s3 57 (by decide) (by decide))).trans a3, (b4.trans (s3 58 (by decide) (by decide))).trans a4, ?_, ?_, by rw [Nat.mul_succ]⟩
      · rw [bs, if_neg hno, hhf]; exact b5
      · rw [bs, if_neg hno, b1 89 (by decide)]; exact a7
    refine w_ne B.1.length mo (fun c => read f' (fun _ _ _ => rfl) (fun w => by omega)) (fun c => ?_)
    refine p_bound g1 hS g2 nm (by omega) (by omega) (by omega) g4 m48 g5 hq g6 g7 hpw (fun f3 s3 => ?_)
    rw [← hbd]
    obtain ⟨x, hx⟩ := get_ex (l := B.1) (k := B.1.length - 1) (by omega)
    have e60 := a6.2.2 _ x hx
    have lr : lrH B.1 = x.2 := by unfold lrH; rw [List.getD_eq_getElem?_getD, hx]; rfl
    rw [a6.1, pk_sub (show 1 ≤ B.1.length by omega), nI_clamp (show B.1.length - 1 < 2 ^ 31 by omega), s3 60 (by decide) (by decide), e60.2.1]
    refine ⟨pk_in (B.1.length - 1) 20 (by omega), pk_lt x.2 (bd (4 * b) t) (fun z2 => read f3 s3 (fun w => by omega)) (fun z2 => ?_) rfl rfl e60.2.2 (bd31 _ _)⟩
    intro v6 e6
    unfold r_find_300
    rintro _ rfl
    rw [nI_add]
    have cond : mo ≤ B.1.length ∧ bd (4 * b) t ≤ lrH B.1 := ⟨by omega, by omega⟩
    refine ih _ (by omega) ⟨v6, f3, fun i h1 h2 => by rw [e6, upd_n h2]; exact a1 i h1 h2, fdF_tr a2 (fdF_S3 (rS3_2 s3)), (s3 57 (by decide) (by decide)).trans a3, (s3 58 (by decide) (by decide)).trans a4, ?_, ?_, by rw [Nat.mul_succ]⟩
    · rw [bs, if_pos cond]
      exact rHt_fr (by rw [e6, upd_n (by decide)]) (s3 59 (by decide) (by decide)) (s3 60 (by decide) (by decide)) a6
    · rw [bs, if_pos cond, e6, upd_at, a7, nI_add]
  exact ⟨nin, pk_le 4 ((sg n).length - 4 * b) (fun z2 => main 4 (by omega)) (fun z2 => ⟨nin, main ((sg n).length - 4 * b) (by omega)⟩)⟩
end FI
