/-! a merged segment is built -/
section LY6
variable {S V T W : cS} {made dn p by' : Nat} {ar : Nat → Nat} {sl : Nat → List Nat} {lv : Nat → Nat → Bool} {mp : List (Nat × Nat)}
theorem dig_app {v r i j : Nat} (hv : v < 64 ^ i) (hr : r < 64) : (j = i → (v + r * 64 ^ i) / 64 ^ j % 64 = r) ∧ (j < i → (v + r * 64 ^ i) / 64 ^ j % 64 = v / 64 ^ j % 64) := by
  constructor
  · rintro rfl
    rw [Nat.add_mul_div_right _ _ (Nat.pow_pos (by decide)), Nat.div_eq_of_lt hv, Nat.zero_add, Nat.mod_eq_of_lt hr]
  · intro h
    have e : r * 64 ^ i = r * 64 ^ (i - j - 1) * 64 * 64 ^ j := by
      rw [Nat.mul_assoc, Nat.mul_assoc, ← Nat.pow_succ', ← Nat.pow_add]
      congr 2
      omega
    rw [e, Nat.add_mul_div_right _ _ (Nat.pow_pos (by decide)), Nat.add_mul_mod_self_right]
/-- what is built so far -/
def mbI (S W : cS) (ar : Nat → Nat) (dn made : Nat) (sl : Nat → List Nat) (lv : Nat → Nat → Bool) (mp : List (Nat × Nat)) (i : Nat) : Prop := lwT S W ([2, 4].map ar) ∧ rJ S W (ar 2) [made] ∧ rO S W (ar 4) [made] ∧ (∃ v, v < 64 ^ i ∧ cJ W (ar 2) made = lN v ∧ ∀ j z a, j < i → mp[j]? = some z → (sl z.1)[z.2]? = some a → v / 64 ^ j % 64 < dn ∧ cJ S (ar 0) (v / 64 ^ j % 64) = lN a ∧ a < 2 ^ 51) ∧ cI W (ar 4) made = nI (bN (fun j => lv (mp.getD j (0, 0)).1 (mp.getD j (0, 0)).2) i)
def mbO (S W : cS) (ar : Nat → Nat) (dn made : Nat) (sl : Nat → List Nat) (lv : Nat → Nat → Bool) (mp : List (Nat × Nat)) : Prop := lwT S W ([2, 3, 4, 5].map ar) ∧ rJ S W (ar 2) [made] ∧ (rO S W (ar 3) [made] ∧ cI W (ar 3) made = nI mp.length) ∧ (∃ v, v < 64 ^ mp.length ∧ cJ W (ar 2) made = lN v ∧ ∀ j z a, j < mp.length → mp[j]? = some z → (sl z.1)[z.2]? = some a → v / 64 ^ j % 64 < dn ∧ cJ S (ar 0) (v / 64 ^ j % 64) = lN a ∧ a < 2 ^ 51) ∧ (rO S W (ar 4) [made] ∧ cI W (ar 4) made = nI (bN (fun j => lv (mp.getD j (0, 0)).1 (mp.getD j (0, 0)).2) mp.length)) ∧ rO S W (ar 5) [made] ∧ cI W (ar 5) made = nI (bN (fun _ => true) mp.length)
theorem q_mg363 {Q : Int32 → cS → Prop} {dp mc ms x : Nat} {t0 : Int32} (g : lRow S ar) (gs : lSeg S (ar 0) (ar 2) (ar 3) dn made sl) (hmd : made < 30) (hl : mp.length ≤ 10) (m12 : cI S (ar 15) 12 = nI mp.length) (hmp : ∀ i z, mp[i]? = some z → cI S (ar 13) i = nI (16 * z.1 + z.2) ∧ z.1 < made ∧ cI S (ar 4) z.1 = nI (bN (lv z.1) (sl z.1).length) ∧ ∃ a, (sl z.1)[z.2]? = some a) (hp : p < 30) (hk : ∀ W, mbO S W ar dn made sl lv mp → k_L_isMerged_488L Q dp mc ms x (ar 6) (ar 15) (nI p) (nI made) t0 (nI (p + 3)) 0 0 W) : k_L_isMerged_363 Q dp mc ms x (ar 2) (ar 3) (ar 4) (ar 5) (ar 6) (ar 13) (ar 15) (nI p) (nI made) t0 0 0 S := by
  unfold k_L_isMerged_363
  rw [nI_x made (by omega)]
  refine ⟨lR_X g (i := 2) (by decide) (show made < 30 by omega), fun S1 e1 => ?_⟩
  have w1 : lwT S S1 ([2, 4].map ar) := e1 ▸ lw_SJ (by simp)
  refine ⟨lR_X (lR_w w1 g) (i := 4) (by decide) (show made < 30 by omega), fun S2 e2 => ?_⟩
  have w2 : lwT S S2 ([2, 4].map ar) := lw_tr w1 (e2 ▸ lw_SI (by simp)) (fun _ z => z)
  have n24 : ar 2 ≠ ar 4 := lR_ne g (by decide) (by decide) (by decide)
  unfold k_L_isMerged_378L
  refine lfp_cnt mp.length (fun i y => ∃ W, mbI S W ar dn made sl lv mp i ∧ y = (x, ar 2, ar 3, ar 4, ar 5, ar 6, ar 13, ar 15, nI p, nI made, t0, nI i, 0, 0, W)) ?_ ⟨S2, ⟨w2, ?_, ?_, ⟨0, by decide, ?_, fun j z a hj => absurd hj (Nat.not_lt_zero j)⟩, ?_⟩, rfl⟩
  · rintro P i _ hi ⟨W, hW, rfl⟩ ih
    show k_L_isMerged_378 Q dp mc ms _ x (ar 2) (ar 3) (ar 4) (ar 5) (ar 6) (ar 13) (ar 15) (nI p) (nI made) t0 (nI i) 0 0 W
    obtain ⟨wW, r2, r4, ⟨v, hv, j2, hd⟩, v4⟩ := id hW
    have gW := lR_w wW g
    have gsW : lSeg W (ar 0) (ar 2) (ar 3) dn made sl := by
      refine ⟨⟨gW.1 0 (by decide), gW.1 2 (by decide), gW.1 3 (by decide)⟩, gs.2.1, fun n hn => ?_⟩
      rw [lwI g wW 3 rfl, lwJ g wW 0 rfl, r2 n (by simp; omega)]
      exact gs.2.2 n hn
    unfold k_L_isMerged_378
    rw [nI_x 12 (by decide), lwI g wW 15 rfl, m12]
    refine ⟨lR_X gW (i := 15) (by decide) (by decide), pk_le mp.length i (fun c => ?_) (fun c => ?_)⟩
    · obtain rfl : i = mp.length := by omega
      rw [nI_x made (by omega)]
      refine ⟨lR_X gW (i := 15) (by decide) (by decide), lR_X gW (i := 3) (by decide) (show made < 30 by omega), fun S3 e3 => ?_⟩
      have w3 : lwT W S3 ([3].map ar) := e3 ▸ lw_SI (by simp)
      have g3 := lR_w w3 gW
      rw [lwI gW w3 15 rfl, lwI g wW 15 rfl, m12, bN_whole (by omega)]
      refine ⟨lR_X g3 (i := 15) (by decide) (by decide), lR_X g3 (i := 5) (by decide) (show made < 30 by omega), fun S4 e4 => ?_⟩
      have w4 : lwT S3 S4 ([5].map ar) := e4 ▸ lw_SI (by simp)
      have g4 := lR_w w4 g3
      rintro _ rfl
      rw [nI_add]
      refine hk S4 ⟨?_, fun q hq => ?_, ⟨fun q hq => ?_, ?_⟩, ⟨v, hv, ?_, hd⟩, ⟨fun q hq => ?_, ?_⟩, fun q hq => ?_, ?_⟩
      · exact lw_tr (lw_tr (lw_wk wW (fun a ha => by simp at ha ⊢; rcases ha with e | e <;> simp [e])) w3 (fun a ha => by simp at ha ⊢; simp [ha])) w4 (fun a ha => by simp at ha ⊢; simp [ha])
      · rw [lwJ g3 w4 2 rfl, lwJ gW w3 2 rfl]; exact r2 q hq
      · rw [lwI g3 w4 3 rfl, e3, cSI_o (by simpa using hq), lwI g wW 3 rfl]
      · rw [lwI g3 w4 3 rfl, e3, cSI_s]
      · rw [lwJ g3 w4 2 rfl, lwJ gW w3 2 rfl]; exact j2
      · rw [lwI g3 w4 4 rfl, lwI gW w3 4 rfl]; exact r4 q hq
      · rw [lwI g3 w4 4 rfl, lwI gW w3 4 rfl]; exact v4
      · rw [e4, cSI_o (by simpa using hq), lwI gW w3 5 rfl, lwI g wW 5 rfl]
      · rw [e4, cSI_s]
    · obtain ⟨z, hz⟩ : ∃ z, mp[i]? = some z := ⟨_, List.getElem?_eq_getElem c⟩
      obtain ⟨ey, z1, ev, a, ha⟩ := hmp i z hz
      have z2 : z.2 < 10 := by
        have := get_lt ha
        have := (gs.2.2 z.1 z1).2.1
        omega
      have yW : cI W (ar 13) i = nI (16 * z.1 + z.2) := by rw [lwI g wW 13 rfl]; exact ey
      have d1 : nI (16 * z.1 + z.2) / nI 16 = nI z.1 := by
        rw [pk_div (by omega) (by decide) (by decide)]
        congr 1
        omega
      have d2 : nI (16 * z.1 + z.2) - nI (16 * z.1 + z.2) / nI 16 * nI 16 = nI z.2 := by
        rw [i_mod (by omega) (by decide) (by decide)]
        congr 1
        omega
      rw [nI_x made (by omega), nI_x i (by omega), yW, d2, d1]
      have c2 := lR_X gW (i := 2) (by decide) (show made < 30 by omega)
      have c13 := lR_X gW (i := 13) (by decide) (show i < 32 by omega)
      refine ⟨c2, c13, c13, ⟨by omega, by omega⟩, q_L_rec gsW z1 ha (fun q q64 qd eq a51 => ⟨c2, fun S3 e3 => ?_⟩)⟩
      have h64 : (64 : Nat) ^ i = 2 ^ (6 * i) := by rw [show (64 : Nat) = 2 ^ 6 from rfl, ← Nat.pow_mul]
      have hp60 : (64 : Nat) ^ i ≤ 64 ^ 9 := Nat.pow_le_pow_right (by decide) (by omega)
      have hq2 : q * 2 ^ (6 * i) < 2 ^ 64 := by
        rw [← h64]
        have h1 : q * 64 ^ i ≤ 63 * 64 ^ 9 := Nat.mul_le_mul (by omega) hp60
        exact Nat.lt_of_le_of_lt h1 (by decide)
      rw [j2, nI_toL (by omega), pk_mul, jSl_N (by omega) hq2, lN_orS (by rw [← h64]; exact hv), ← h64] at e3
      have w3 : lwT W S3 ([2].map ar) := e3 ▸ lw_SJ (by simp)
      have g3 := lR_w w3 gW
      have y3 : cI S3 (ar 13) i = nI (16 * z.1 + z.2) := by rw [lwI gW w3 13 rfl]; exact yW
      have v3 : cI S3 (ar 4) = cI W (ar 4) := lwI gW w3 4 rfl
      have vz : cI S3 (ar 4) z.1 = nI (bN (lv z.1) (sl z.1).length) := by rw [v3, r4 z.1 (by simp; omega)]; exact ev
      rw [y3, d2, d1, nI_x z.1 (by omega), vz, bN_bit (get_lt ha) (by have := (gs.2.2 z.1 z1).2.1; omega), v3, v4, bN_put (by omega)]
      have c43 := lR_X g3 (i := 4) (by decide) (show made < 30 by omega)
      have c133 := lR_X g3 (i := 13) (by decide) (show i < 32 by omega)
      refine ⟨c43, c133, lR_X g3 (i := 4) (by decide) (show z.1 < 30 by omega), c133, c43, fun S4 e4 => ?_⟩
      have w4 : lwT S3 S4 ([4].map ar) := e4 ▸ lw_SI (by simp)
      have g4 := lR_w w4 g3
      rintro _ rfl
      rw [nI_add]
      have gd : mp.getD i (0, 0) = z := by rw [List.getD_eq_getElem?_getD, hz]; rfl
      refine ih _ c ⟨S4, ⟨?_, fun q' hq => ?_, fun q' hq => ?_, ⟨v + q * 64 ^ i, ?_, ?_, fun j y b hj hy hb => ?_⟩, ?_⟩, rfl⟩
      · exact lw_tr (lw_tr wW w3 (fun a ha => by simp at ha ⊢; simp [ha])) w4 (fun a ha => by simp at ha ⊢; simp [ha])
      · rw [lwJ g3 w4 2 rfl, e3, cSJ_o (by simpa using hq)]; exact r2 q' hq
      · rw [e4, cSI_o (by simpa using hq), v3]; exact r4 q' hq
      · rw [Nat.pow_succ]
        have h1 : q * 64 ^ i ≤ 63 * 64 ^ i := Nat.mul_le_mul_right _ (by omega)
        omega
      · rw [lwJ g3 w4 2 rfl, e3, cSJ_s]
      · obtain ⟨d1', d2'⟩ := dig_app (j := j) hv q64
        by_cases cj : j = i
        · rw [d1' cj]
          rw [cj, hz] at hy
          cases hy
          rw [ha] at hb
          cases hb
          refine ⟨qd, ?_, a51⟩
          rw [lwJ g wW 0 rfl] at eq
          exact eq
        · rw [d2' (by omega)]
          exact hd j y b (by omega) hy hb
      · rw [e4, cSI_s]
        congr 1
        refine bN_ext (fun j hj => ?_)
        show upR (fun j => lv (mp.getD j (0, 0)).1 (mp.getD j (0, 0)).2) i (lv z.1 z.2) j = _
        by_cases cj : j = i
        · subst cj
          rw [upR_s, gd]
        · rw [upR_n cj]
  · intro q hq
    rw [e2]
    show cJ S1 (ar 2) q = _
    rw [e1, cSJ_o (by simpa using hq)]
  · intro q hq
    rw [e2, cSI_o (by simpa using hq), e1]
    rfl
  · rw [e2]
    show cJ S1 (ar 2) made = _
    rw [e1, cSJ_s]; rfl
  · rw [e2, cSI_s]; rfl
end LY6
