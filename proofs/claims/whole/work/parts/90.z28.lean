/-! the reference: passages of a document -/
section PD
variable {v v' : Nat → Int32} {f f' : Nat → Nat → Int32} {g g' : Nat → Nat → Int64} {l : LGt} {made dn : Nat} {sg : Nat → List Dc} {hd : Nat → Nat → Nat} {sl : Nat → Option (Nat × Vw)} {a k q m w0 w1 : Nat} {s : Vw} {nd : Nat → Nd} {rr : Nat → Nat} {qs : List (Nat × (Nat → Nd))}
theorem p_isFieldT {Q : QI} {x : Int32} (h0 : (∀ k, k < 2 → x ≠ nI k) → Q (bI false) v f g) (h1 : ∀ k, k < 2 → x = nI k → Q (bI true) v f g) : r_isField Q x v f g := by
  unfold r_isField
  exact p_in2 (lo := 0) (hi := 1) (by decide) (by decide) (fun hno => ⟨⟨_, rfl⟩, h0 (fun k hk => hno k (Nat.zero_le _) (by omega))⟩) (fun k h1' h2 hx => ⟨⟨_, rfl⟩, h1 k (by omega) hx⟩)
/-- what passages are not asked of -/
def nPas (sl : Nat → Option (Nat × Vw)) (qs : List (Nat × (Nat → Nd))) (x y z t : Int32) : Prop := nAsk sl qs x y ∨ (∃ a s q e, isA sl qs x y a s q e ∧ ((∀ k, k < 100 → z ≠ nI k) ∨ ∃ key, key < 100 ∧ z = nI key ∧ ∀ k, k < 2 → t ≠ nI k))
/-- what they may change -/
def psO (v v' : Nat → Int32) (f f' : Nat → Nat → Int32) : Prop := (∀ i, i ∉ [60, 92] → v' i = v i) ∧ ∀ n, n ∉ [38, 52, 53, 54, 55, 56, 61, 62, 63, 64] → f' n = f n
theorem p_passagesOf {Q : QI} {x y z t : Int32} (hl : rLg v g l) (hS : scW l) (hpw : mPow g) (hs : rSg l v f g made dn sg hd) (hk : rLk f made sg sl) (hT : ∀ a s, a < 5 → sl a = some s → allN sg s.2.2 s.2.1 ≤ 600) (hq : rQl v f g qs) (hG : qrG qs) (h0 : f 49 0 = nI w0) (h1 : f 49 1 = nI w1) (hw : w0 ≤ 9 ∧ w1 ≤ 9) (hX : nPas sl qs x y z t → Q (-1) v f g) (hN : ∀ a s q e key fl, isA sl qs x y a s q e → key < 100 → z = nI key → fl < 2 → t = nI fl → (∀ y d, y ∈ mtL sg s.2.2 s.2.1 → (sg y.1)[y.2]? = some d → dK d ≠ key) → ∀ v' f', psO v v' f f' → Q (nI 0) v' f' g) (h : ∀ a s q e key fl, isA sl qs x y a s q e → key < 100 → z = nI key → fl < 2 → t = nI fl → ∀ y d, y ∈ mtL sg s.2.2 s.2.1 → (sg y.1)[y.2]? = some d → dK d = key → ∀ v' f', psO v v' f f' → (∀ j p, (psM e d fl)[j]? = some p → f' 64 j = nI p) → Q (nI (psM e d fl).length) v' f' g) : r_passagesOf Q x y z t v f g := by
  unfold r_passagesOf
  refine p_slotAsk hk hq (fun r hno => ⟨fun _ => hX (Or.inl hno), fun w => absurd rfl w⟩) (fun a s q e hA => ⟨fun w => absurd w (by decide), fun _ => ?_⟩)
  refine p_isKeyT (fun hno => ⟨fun _ => hX (Or.inr ⟨a, s, q, e, hA, Or.inl hno⟩), fun w => absurd rfl w⟩) (fun key hkey ez => ⟨fun w => absurd w (by decide), fun _ => ?_⟩)
  refine p_isFieldT (fun hno => ⟨fun w => absurd rfl w, fun _ => hX (Or.inr ⟨a, s, q, e, hA, Or.inr ⟨key, hkey, ez, hno⟩⟩)⟩) (fun fl hfl et => ⟨fun _ => ?_, fun w => absurd w (by decide)⟩)
  have hN := hN a s q e key fl hA hkey ez hfl et
  have h := h a s q e key fl hA hkey ez hfl et
  obtain ⟨a5, hsl, ex, he, ey⟩ := hA
  rw [ey, ez, et]
  refine p_ready (k := s.1) (s := s.2) hl hS hpw hs hk a5 hsl (hT a s a5 hsl) hq hG he h0 h1 hw (fun v2 f2 b1 b2 b3 b4 b5 => ?_)
  have o2 : ∀ v3 f3, (∀ i, i ≠ 92 → v3 i = v2 i) → (∀ n, n ∉ [52, 53, 54, 61, 62, 63, 64] → f3 n = f2 n) → psO v v3 f f3 := fun v3 f3 h1 h2 => ⟨fun i hi => (h1 i (fun e => hi (by rw [e]; decide))).trans (b1 i (fun e => hi (by rw [e]; decide))), fun n hn => (h2 n (fun w => hn (by revert w; simp; omega))).trans (b2 n (fun w => hn (by revert w; simp; omega)))⟩
  refine p_withKey b4.2.1 b3 (hid_of hk a5 hsl) hkey (fun hno => ?_) (fun y d hy hd' hk' => ?_)
  · exact ⟨fun _ => hN hno v2 f2 (o2 v2 f2 (fun _ _ => rfl) (fun _ _ => rfl)), fun w => absurd rfl w⟩
  · have h := h y d hy hd' hk'
    refine ⟨fun w => absurd w (fun w => ?_), fun _ => ?_⟩
    · have hlt := (rSg_at b4.2.1 (hid_of hk a5 hsl) hy).choose_spec.2.2
      have := nI_pos (n := hd y.1 y.2) (by omega)
      rw [w] at this
      exact absurd (by decide) this
    refine p_give1 b4 b5 hy (fun f3 s3 vB => ?_)
    obtain ⟨sp, hsp⟩ : ∃ sp, sp = spF e.2 e.1 (fun i => mkO d (lfD e.2 e.1 i)) fl := ⟨_, rfl⟩
    have pm : psM e d fl = if (vlN e.2 e.1 w0 w1 (rrL e.2 e.1 sg s.2.2 s.2.1) (sg y.1) y.2).isSome = true then psL sp (mkF sp (lfI e.2 e.1).length) else [] := by
      have := psD_M (nd := e.2) (m := e.1) (w0 := w0) (w1 := w1) (fl := fl) (rr := rrL e.2 e.1 sg s.2.2 s.2.1) (d := d)
      rw [vlN_O hd', hsp]
      exact this.symm
    have b4' := rFc_fr (fun _ _ => rfl) (fdF_S3 s3) b4
    refine w_ci vB (fun r hr => ?_) (fun hr => ?_)
    · rw [hr, if_pos (show (some r).isSome = true from rfl)] at pm
      refine p_laysMarks hfl b4' b5 hy hd' hsp (fun v4 f4 c1 c2 c3 c4 => ?_)
      obtain ⟨d2, hd2, ⟨-, -, -, hx⟩, -⟩ := rSg_at b4.2.1 (hid_of hk a5 hsl) hy
      rw [hd'] at hd2
      obtain rfl := Option.some.inj hd2
      have hsok : spOk sp (lfI e.2 e.1).length := by rw [hsp]; exact sp_ok hx b5.2.2.2.2.2.2.1 b5.2.2.2.2.2.2.2.2.2.1
      refine p_passes hsok c3 c4 (fun f5 d1 d2 => ?_)
      rw [pm] at h
      refine h v4 f5 (o2 v4 f5 c1 (fun n hn => ?_)) d2
      rw [d1 n (fun w => hn (by revert w; simp; omega)), c2 n (fun e => hn (by rw [e]; decide)) (fun e => hn (by rw [e]; decide)) (fun e => hn (by rw [e]; decide)), s3 n (fun e => hn (by rw [e]; decide)) (fun e => hn (by rw [e]; decide)) (fun e => hn (by rw [e]; decide))]
    · rw [hr, if_neg (by decide)] at pm
      rw [pm] at h
      exact h v2 f3 (o2 v2 f3 (fun _ _ => rfl) (fun n hn => s3 n (fun e => hn (by rw [e]; decide)) (fun e => hn (by rw [e]; decide)) (fun e => hn (by rw [e]; decide)))) (fun j p hj => absurd (get_lt hj) (Nat.not_lt_zero j))
theorem p_passages {Q : QI} {x y z t : Int32} (hl : rLg v g l) (hS : scW l) (hpw : mPow g) (hs : rSg l v f g made dn sg hd) (hk : rLk f made sg sl) (hT : ∀ a s, a < 5 → sl a = some s → allN sg s.2.2 s.2.1 ≤ 600) (hq : rQl v f g qs) (hG : qrG qs) (h0 : f 49 0 = nI w0) (h1 : f 49 1 = nI w1) (hw : w0 ≤ 9 ∧ w1 ≤ 9) (hX : nPas sl qs x y z t → Q (nI 0) (upd v 99 (nI 1)) f g) (hN : ∀ a s q e key fl, isA sl qs x y a s q e → key < 100 → z = nI key → fl < 2 → t = nI fl → (∀ y d, y ∈ mtL sg s.2.2 s.2.1 → (sg y.1)[y.2]? = some d → dK d ≠ key) → ∀ v' f', psO v v' f f' → Q (nI 0) (upd v' 99 (nI 0)) f' g) (h : ∀ a s q e key fl, isA sl qs x y a s q e → key < 100 → z = nI key → fl < 2 → t = nI fl → ∀ y d, y ∈ mtL sg s.2.2 s.2.1 → (sg y.1)[y.2]? = some d → dK d = key → ∀ v' f', psO v v' f f' → Q (nI (psM e d fl).length) (upd v' 99 (nI 0)) f' g) : r_passages Q x y z t v f g := by
  have ok : ∀ (n : Nat) v' f', n < 2 ^ 31 → Q (nI n) (upd v' 99 (nI 0)) f' g → ((nI n = (-1 : Int32) → r_passages_23 Q (nI n) (nI 0) v' f' g) ∧ (¬ nI n = (-1 : Int32) → r_passages_23 Q (nI n) (nI 1) v' f' g)) := by
    intro n v' f' hn hQ
    refine ⟨fun w => absurd w (fun w => ?_), fun _ => ?_⟩
    · have := nI_pos (n := n) hn
      rw [w] at this
      exact absurd (by decide) this
    · unfold r_passages_23
      exact p_goes (b1 := true) (b2 := true) (b3 := true) ⟨fun w => absurd w (by decide), fun _ => hQ⟩
  unfold r_passages
  refine p_passagesOf hl hS hpw hs hk hT hq hG h0 h1 hw (fun hb => ⟨fun _ => ?_, fun w => absurd rfl w⟩) (fun a s q e key fl hA b1 b2 b3 b4 b5 v' f' hO => ok 0 v' f' (by decide) (hN a s q e key fl hA b1 b2 b3 b4 b5 v' f' hO)) (fun a s q e key fl hA b1 b2 b3 b4 y d b5 b6 b7 v' f' hO _ => ok _ v' f' (by have := psM_len (e := e) (d := d) (fl := fl); omega) (h a s q e key fl hA b1 b2 b3 b4 y d b5 b6 b7 v' f' hO))
  unfold r_passages_23
  exact p_goes (b1 := false) (b2 := true) (b3 := true) ⟨fun _ => hX hb, fun w => absurd rfl w⟩
theorem paI_out {L : List Nat} {x : Int32} (h : ∀ k, k < L.length → x ≠ nI k) : paI L x = -1 := by
  unfold paI
  split
  · rfl
  · rename_i c
    obtain ⟨k, -, k31, rfl⟩ := i32_ge (a := 0) (by decide) c
    rw [nI_clamp k31]
    cases e : L[k]? with
    | none => rfl
    | some p => exact absurd rfl (h k (get_lt e))
theorem paI_at {L : List Nat} {k p : Nat} (hk : k < 2 ^ 31) (h : L[k]? = some p) : paI L (nI k) = nI p := by
  unfold paI
  rw [if_neg (show ¬ nI k < (0 : Int32) from nI_pos hk), nI_clamp hk, h]
theorem p_passageAt {Q : QI} {x y z t i : Int32} (hl : rLg v g l) (hS : scW l) (hpw : mPow g) (hs : rSg l v f g made dn sg hd) (hk : rLk f made sg sl) (hT : ∀ a s, a < 5 → sl a = some s → allN sg s.2.2 s.2.1 ≤ 600) (hq : rQl v f g qs) (hG : qrG qs) (h0 : f 49 0 = nI w0) (h1 : f 49 1 = nI w1) (hw : w0 ≤ 9 ∧ w1 ≤ 9) (hX : nPas sl qs x y z t → Q (nI 0) (upd v 99 (nI 1)) f g) (hN : ∀ a s q e key fl, isA sl qs x y a s q e → key < 100 → z = nI key → fl < 2 → t = nI fl → (∀ y d, y ∈ mtL sg s.2.2 s.2.1 → (sg y.1)[y.2]? = some d → dK d ≠ key) → ∀ v' f', psO v v' f f' → Q (-1) (upd v' 99 (nI 0)) f' g) (h : ∀ a s q e key fl, isA sl qs x y a s q e → key < 100 → z = nI key → fl < 2 → t = nI fl → ∀ y d, y ∈ mtL sg s.2.2 s.2.1 → (sg y.1)[y.2]? = some d → dK d = key → ∀ v' f', psO v v' f f' → Q (paI (psM e d fl) i) (upd v' 99 (nI 0)) f' g) : r_passageAt Q x y z t i v f g := by
  have ok : ∀ (L : List Nat) v' f', L.length ≤ 4 → (∀ j p, L[j]? = some p → f' 64 j = nI p) → Q (paI L i) (upd v' 99 (nI 0)) f' g → ((nI L.length = (-1 : Int32) → r_passageAt_23 Q i (nI L.length) (nI 0) v' f' g) ∧ (¬ nI L.length = (-1 : Int32) → r_passageAt_23 Q i (nI L.length) (nI 1) v' f' g)) := by
    intro L v' f' hn h64 hQ
    refine ⟨fun w => absurd w (fun w => ?_), fun _ => ?_⟩
    · have := nI_pos (n := L.length) (by omega)
      rw [w] at this
      exact absurd (by decide) this
    · unfold r_passageAt_23
      refine p_goes (b1 := true) (b2 := true) (b3 := true) ⟨fun _ => ?_, fun w => absurd w (by decide)⟩
      refine p_inL (by omega) (fun hno => ⟨fun _ => ?_, fun w => absurd rfl w⟩) (fun k hk ei => ⟨fun w => absurd w (by decide), fun _ => ?_⟩)
      · rw [paI_out hno] at hQ; exact hQ
      · obtain ⟨p, hp⟩ := get_ex (l := L) (k := k) hk
        rw [ei, paI_at (by omega) hp] at hQ
        rw [ei, nI_clamp (show k < 2 ^ 31 by omega), h64 k p hp]
        exact ⟨pk_in k 20 (by omega), hQ⟩
  unfold r_passageAt
  refine p_passagesOf hl hS hpw hs hk hT hq hG h0 h1 hw (fun hb => ⟨fun _ => ?_, fun w => absurd rfl w⟩) (fun a s q e key fl hA b1 b2 b3 b4 b5 v' f' hO => ok [] v' f' (by decide) (fun j p hj => absurd (get_lt hj) (Nat.not_lt_zero j)) ?_) (fun a s q e key fl hA b1 b2 b3 b4 y d b5 b6 b7 v' f' hO h64 => ok _ v' f' psM_len h64 (h a s q e key fl hA b1 b2 b3 b4 y d b5 b6 b7 v' f' hO))
  · unfold r_passageAt_23
    exact p_goes (b1 := false) (b2 := true) (b3 := true) ⟨fun w => absurd rfl w, fun _ => hX hb⟩
  · rw [paI_out (L := []) (fun k hk => absurd hk (Nat.not_lt_zero k))]
    exact hN a s q e key fl hA b1 b2 b3 b4 b5 v' f' hO
end PD
