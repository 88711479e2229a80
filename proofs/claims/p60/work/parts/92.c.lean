/-! the law's rows: records, segments, a view -/
def lSeg (S : cS) (r s z dn made : Nat) (sl : Nat → List Nat) : Prop := ((cA S r 15 ∧ cn S r = 64) ∧ (cA S s 15 ∧ cn S s = 30) ∧ (cA S z 14 ∧ cn S z = 30)) ∧ (made ≤ 30 ∧ dn ≤ 64) ∧ ∀ n, n < made → cI S z n = nI (sl n).length ∧ (sl n).length ≤ 10 ∧ ∃ v, v < 2 ^ 60 ∧ cJ S s n = lN v ∧ ∀ j a, (sl n)[j]? = some a → v / 64 ^ j % 64 < dn ∧ cJ S r (v / 64 ^ j % 64) = lN a ∧ a < 2 ^ 51
def lVw (S : cS) (q made : Nat) (sl : Nat → List Nat) (v : Vw) : Prop := (cA S q 14 ∧ cn S q = 64) ∧ cI S q 1 = nI v.1.length ∧ v.1.length ≤ 30 ∧ (∀ k n, v.1[k]? = some n → cI S q (2 + k) = nI n ∧ n < made) ∧ ∀ n, n ∈ v.1 → cI S q (32 + n) = nI (bN (v.2 n) (sl n).length)
def alS (sl : Nat → List Nat) (v : Vw) (ids : List Nat) : Nat := sumL (fun n => cntB (v.2 n) (sl n).length) ids
def hvB (sl : Nat → List Nat) (v : Vw) (f t n j : Nat) : Bool := v.2 n j && decide (0 < cuN ((sl n).getD j 0) f t)
def hvS (sl : Nat → List Nat) (v : Vw) (f t : Nat) (ids : List Nat) : Nat := sumL (fun n => cntB (hvB sl v f t n) (sl n).length) ids
def raS (sl : Nat → List Nat) (v : Vw) (f t : Nat) : Nat := rarN (alS sl v v.1) (hvS sl v f t v.1)
theorem rar_k {k r : Nat} (hr : 1 ≤ r) (h : 0 < k / 2 ^ r) : rarL (k / 2 ^ (r - 1)) (k / 2 ^ (r - 1)) = rarL (k / 2 ^ r) (k / 2 ^ r) + 1 := by
  obtain ⟨n, rfl⟩ : ∃ n, r = n + 1 := ⟨r - 1, by omega⟩
  rw [Nat.add_sub_cancel]
  have e : k / 2 ^ (n + 1) = k / 2 ^ n / 2 := by rw [Nat.pow_succ, Nat.div_div_eq_div_mul]
  rw [e] at h ⊢
  exact rarL_s (by omega)
theorem rar_z {k : Nat} (h : k ≤ 1) : ∀ n, rarL n k = 1
  | 0 => rfl
  | n + 1 => by rw [rarL, if_pos h]
section LC
variable {Q : Int32 → cS → Prop} {S : cS} {dp r s z q dn made f t : Nat} {sl : Nat → List Nat} {v : Vw}
theorem q_L_rec {n j a : Nat} (g : lSeg S r s z dn made sl) (hn : n < made) (ha : (sl n)[j]? = some a) (h : ∀ i, i < 64 → i < dn → cJ S r i = lN a → a < 2 ^ 51 → Q (nI i) S) : k_L_record Q dp s (nI n) (nI j) S := by
  obtain ⟨⟨-, ⟨g1, g2⟩, -⟩, ⟨g3, g4⟩, g5⟩ := g
  obtain ⟨-, h2, v, h3, h4, h5⟩ := g5 n hn
  obtain ⟨h6, h7, h8⟩ := h5 j a ha
  have hj : j < 10 := by have := (List.getElem?_eq_some_iff.mp ha).1; omega
  unfold k_L_record
  refine ⟨cX_mk g1 g2 (by decide) (by omega : n < 30) rfl, ?_⟩
  rw [nI_clamp (by omega), h4, pk_mul, jUs_N (by omega) (by omega), lN_and63, lN_toI, show 2 ^ (6 * j) = 64 ^ j from by rw [show (64 : Nat) = 2 ^ 6 from rfl, ← Nat.pow_mul]]
  exact h _ (Nat.mod_lt _ (by decide)) h6 h7 h8
theorem q_rar {D H : Nat} (hD : D < 60000) (h : Q (nI (rarN D H)) S) (hH : H < 60000) : k_L_rarity_125L Q dp (nI D) (nI H) (nI 1) S := by
  have hk : (D + 1) / (H + 1) ≤ D + 1 := Nat.div_le_self _ _
  unfold k_L_rarity_125L
  refine lfp_ind (I := fun y => ∃ r, 1 ≤ r ∧ r ≤ 17 ∧ rarL ((D + 1) / (H + 1) / 2 ^ (r - 1)) ((D + 1) / (H + 1) / 2 ^ (r - 1)) + (r - 1) = rarN D H ∧ y = (nI D, nI H, nI r, S)) (μ := fun y => 20 - y.2.2.1.toNatClampNeg) ?_ ⟨1, Nat.le_refl _, by decide, by rw [Nat.sub_self, Nat.pow_zero, Nat.div_one]; rfl, rfl⟩
  rintro P _ ⟨r, h1, h17, hr, rfl⟩ ih
  show k_L_rarity_125 Q dp _ (nI D) (nI H) (nI r) S
  unfold k_L_rarity_125
  rw [nI_add, nI_add, pk_div (by omega) (by omega) (by omega), nI_shr (by omega) (by omega)]
  refine ⟨nI_ne0 (by omega) (by omega), ?_⟩
  have hlt : (D + 1) / (H + 1) / 2 ^ r ≤ (D + 1) / (H + 1) := Nat.div_le_self _ _
  by_cases c : (D + 1) / (H + 1) / 2 ^ r = 0
  · refine ⟨fun _ => ?_, fun hc => absurd ((nI_le0 (by omega)).mpr c) hc⟩
    rw [rar_z (by
      obtain ⟨n, rfl⟩ : ∃ n, r = n + 1 := ⟨r - 1, by omega⟩
      rw [Nat.add_sub_cancel]
      rw [Nat.pow_succ, ← Nat.div_div_eq_div_mul] at c
      omega)] at hr
    rw [show r = rarN D H from by omega]
    exact h
  · refine ⟨fun hc => absurd ((nI_le0 (by omega)).mp hc) c, fun _ => ?_⟩
    intro x ex
    rw [ex, nI_add]
    have h16 : r < 17 := by
      refine Nat.lt_of_not_le fun hge => c ?_
      have : 2 ^ 17 ≤ 2 ^ r := Nat.pow_le_pow_right (by decide) hge
      exact Nat.div_eq_of_lt (by omega)
    refine ih _ ⟨r + 1, by omega, by omega, ?_, rfl⟩ ?_
    · rw [Nat.add_sub_cancel, ← hr, rar_k h1 (Nat.pos_of_ne_zero c)]
      omega
    · show 20 - (nI (r + 1)).toNatClampNeg < 20 - (nI r).toNatClampNeg
      rw [nI_clamp (by omega), nI_clamp (by omega)]
      omega
theorem alS_le {ids : List Nat} (h : ids.length ≤ 30) (hl : ∀ n, n ∈ ids → (sl n).length ≤ 10) : alS sl v ids ≤ 300 := by
  unfold alS
  have := sumL_bd (f := fun n => cntB (v.2 n) (sl n).length) (B := 10) (l := ids) (fun n hn => Nat.le_trans (cntB_le _ _) (hl n hn))
  omega
theorem hvS_le {ids : List Nat} (h : ids.length ≤ 30) (hl : ∀ n, n ∈ ids → (sl n).length ≤ 10) : hvS sl v f t ids ≤ 300 := by
  unfold hvS
  have := sumL_bd (f := fun n => cntB (hvB sl v f t n) (sl n).length) (B := 10) (l := ids) (fun n hn => Nat.le_trans (cntB_le _ _) (hl n hn))
  omega
theorem q_L_rarity (gs : lSeg S r s z dn made sl) (gv : lVw S q made sl v) (hf : f < 2) (ht : t < 100) (h : Q (nI (raS sl v f t)) S) : k_L_rarity Q dp r s z q (nI f) (nI t) S := by
  obtain ⟨⟨⟨r1, r2⟩, ⟨s1, s2⟩, z1, z2⟩, ⟨m1, m2⟩, g5⟩ := id gs
  obtain ⟨⟨q1, q2⟩, q3, q4, q5, q6⟩ := gv
  have hmem : ∀ n, n ∈ v.1 → n < made := fun n hn => by
    obtain ⟨k, hk⟩ := List.mem_iff_getElem?.mp hn
    exact (q5 k n hk).2
  have hA : ∀ k, alS sl v (v.1.take k) ≤ 300 := fun k => alS_le (by rw [List.length_take]; omega) (fun n hn => (g5 n (hmem n (List.mem_of_mem_take hn))).2.1)
  have hH : ∀ k, hvS sl v f t (v.1.take k) ≤ 300 := fun k => hvS_le (by rw [List.length_take]; omega) (fun n hn => (g5 n (hmem n (List.mem_of_mem_take hn))).2.1)
  unfold k_L_rarity k_L_rarity_9L
  refine lfp_cnt v.1.length (fun k y => y = (r, s, z, q, nI f, nI t, nI (alS sl v (v.1.take k)), nI (hvS sl v f t (v.1.take k)), nI k, S)) ?_ rfl
  rintro P k _ hk rfl ih
  show k_L_rarity_9 Q dp _ r s z q (nI f) (nI t) _ _ (nI k) S
  unfold k_L_rarity_9
  refine ⟨cX_mk q1 q2 (by decide) (by decide : 1 < 64) rfl, ?_⟩
  rw [nI_clamp (by decide), q3]
  refine pk_le v.1.length k (fun c => ?_) (fun c => ?_)
  · rw [List.take_of_length_le c]
    have a1 := hA v.1.length
    have a2 := hH v.1.length
    rw [List.take_length] at a1 a2
    exact q_rar (by omega) h (by omega)
  · obtain ⟨n, hn⟩ : ∃ n, v.1[k]? = some n := ⟨_, List.getElem?_eq_getElem c⟩
    obtain ⟨e1, e2⟩ := q5 k n hn
    obtain ⟨z3, z4, -⟩ := g5 n e2
    have b3 := q6 n (List.mem_of_getElem? hn)
    rw [nI_add]
    refine ⟨cX_mk q1 q2 (by decide) (by omega : 2 + k < 64) rfl, ?_⟩
    intro x ex
    rw [nI_clamp (by omega), e1] at ex
    subst ex
    have a1 := hA k
    have a2 := hH k
    unfold k_L_rarity_28L
    refine lfp_cnt (sl n).length (fun j y => y = (r, s, z, q, nI f, nI t, nI (alS sl v (v.1.take k) + cntB (v.2 n) j), nI (hvS sl v f t (v.1.take k) + cntB (hvB sl v f t n) j), nI k, nI n, nI j, S)) ?_ rfl
    rintro P2 j _ hj rfl ih2
    show k_L_rarity_28 Q dp _ _ r s z q (nI f) (nI t) _ _ (nI k) (nI n) (nI j) S
    unfold k_L_rarity_28
    refine ⟨cX_mk z1 z2 (by decide) (by omega : n < 30) rfl, ?_⟩
    rw [nI_clamp (by omega), z3]
    refine pk_le (sl n).length j (fun d => ?_) (fun d => ?_)
    · obtain rfl : j = (sl n).length := by omega
      intro y ey
      rw [ey, nI_add]
      refine ih _ c ?_
      unfold alS hvS
      rw [sumL_take hn, sumL_take hn]
    · obtain ⟨a, ha⟩ : ∃ a, (sl n)[j]? = some a := ⟨_, List.getElem?_eq_getElem d⟩
      have hga : (sl n).getD j 0 = a := by rw [List.getD_eq_getElem?_getD, ha]; rfl
      rw [nI_add]
      refine ⟨cX_mk q1 q2 (by decide) (by omega : 32 + n < 64) rfl, ?_⟩
      rw [nI_clamp (by omega), b3, bN_bit d (by omega)]
      refine w_N1 (fun e => ?_) (fun e => ?_)
      · unfold k_L_rarity_58
        refine w_z 0 (fun _ => ?_) (fun hc => absurd hc (by decide))
        unfold k_L_rarity_72
        intro y ey
        refine w_z 0 (fun _ => ?_) (fun hc => absurd hc (by decide))
        unfold k_L_rarity_106 k_L_rarity_107
        intro y2 ey2 y3 ey3
        rw [ey, ey2, ey3, nI_add, nI_add, nI_add]
        refine ih2 _ d ?_
        rw [cntB, cntB, hvB, e]
        rfl
      · unfold k_L_rarity_58
        refine w_nz 1 (fun _ => ?_) (fun hc => absurd hc (by decide)) |>.symm
        unfold k_L_rarity_72
        intro y ey
        refine w_nz 1 (fun _ => ?_) (fun hc => absurd hc (by decide)) |>.symm
        refine q_L_rec gs e2 ha (fun i hi hi2 hr ha51 => ?_)
        refine ⟨cX_mk r1 r2 (by decide) hi rfl, ?_⟩
        rw [nI_clamp (by omega), hr]
        refine q_L_count (by omega) hf ht ?_
        have h5 := cuN_le a f t
        by_cases c0 : cuN a f t = 0
        · refine ⟨fun _ => ?_, fun hc => absurd ((nI_le0 (by omega)).mpr c0) hc⟩
          unfold k_L_rarity_106 k_L_rarity_107
          intro y2 ey2 y3 ey3
          rw [ey, ey2, ey3, nI_add, nI_add, nI_add]
          refine ih2 _ d ?_
          rw [cntB, cntB, hvB, e, hga, c0]
          rfl
        · refine ⟨fun hc => absurd ((nI_le0 (by omega)).mp hc) c0, fun _ => ?_⟩
          unfold k_L_rarity_107
          intro y2 ey2 y3 ey3
          rw [ey, ey2, ey3, nI_add, nI_add, nI_add]
          refine ih2 _ d ?_
          rw [cntB, cntB, hvB, e, hga]
          have : decide (0 < cuN a f t) = true := by simp; omega
          rw [this]
          rfl
end LC
