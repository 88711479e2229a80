/-! the reference: postings are packed -/
/-- packed bits, in the row of bytes -/
def pkR (v : Nat → Int32) (f : Nat → Nat → Int32) (l : List Bool) : Prop := v 58 = nI l.length ∧ ∀ k, k < (l.length + 7) / 8 → f 37 k = nI (byV l k)
/-- numbers in the plain row -/
def plR (f : Nat → Nat → Int32) (xs : List Nat) : Prop := ∀ k x, xs[k]? = some x → f 36 k = nI x
section PK
variable {v v' : Nat → Int32} {f f' : Nat → Nat → Int32} {g g' : Nat → Nat → Int64} {l : LGt} {made dn : Nat} {sg : Nat → List Dc} {hd : Nat → Nat → Nat}
theorem p_writesBits {Q : QV} {x w : Nat} {L : List Bool} (hR : pkR v f L) (hx : x < 2 ^ 31) (hw : w ≤ 31) (hL : L.length + w ≤ 19200) (h : ∀ v' f', (∀ i, i ≠ 58 → v' i = v i) → (∀ n, n ≠ 37 → f' n = f n) → pkR v' f' (L ++ bitsN x w) → Q v' f' g) : r_writesBits Q (nI x) (nI w) v f g := by
  unfold r_writesBits
  rintro _ rfl
  unfold r_writesBits_4L
  refine lfp_cnt w (fun i y => ∃ M v' f', M ++ bitsN x (w - i) = L ++ bitsN x w ∧ (∀ i, i ≠ 58 → v' i = v i) ∧ (∀ n, n ≠ 37 → f' n = f n) ∧ pkR v' f' M ∧ y = (nI x, nM (w - i), v', f', g)) ?_ ⟨L, v, f, rfl, fun _ _ => rfl, fun _ _ => rfl, hR, rfl⟩
  rintro P i _ hi ⟨M, v', f', a0, a1, a2, ⟨a3, a4⟩, rfl⟩ ih
  show r_writesBits_4 Q _ (nI x) (nM (w - i)) v' f' g
  unfold r_writesBits_4
  by_cases z : w - i = 0
  · rw [z] at a0 ⊢
    rw [show bitsN x 0 = [] from rfl, List.append_nil] at a0
    refine ⟨fun _ => h v' f' a1 a2 (by rw [← a0]; exact ⟨a3, a4⟩), fun c => absurd (show nM 0 < 0 by decide) c⟩
  obtain ⟨m, hm⟩ : ∃ m, w - i = m + 1 := ⟨w - i - 1, by omega⟩
  rw [hm] at a0 ⊢
  rw [nM_s]
  have len : M.length + (m + 1) ≤ 19200 := by
    have := congrArg List.length a0
    rw [List.length_append, List.length_append, bitsN_len, bitsN_len] at this
    omega
  have a0' : (M ++ [x.testBit m]) ++ bitsN x m = L ++ bitsN x w := by
    rw [← a0, List.append_assoc]; rfl
  have hdm := Nat.div_add_mod M.length 8
  have hml := Nat.mod_lt M.length (show 0 < 8 by decide)
  have din : vp_in (nI (M.length / 8)) 2400 := pk_in (M.length / 8) 2400 (by omega)
  have dcl : (nI (M.length / 8)).toNatClampNeg = M.length / 8 := nI_clamp (by omega)
  have main : ∀ f5, (∀ n, n ≠ 37 → f5 n = f n) → (∀ k, k < M.length / 8 + 1 → f5 37 k = nI (byV M k)) → r_writesBits_31 Q (fun b0 b1 v f g => P (b0, b1, v, f, g)) (nI x) (nI m) v' f5 g := by
    intro f5 b1 b2
    unfold r_writesBits_31
    rw [a3, pk_rem (by omega) (by decide) (by decide), pk_div (by omega) (by decide) (by decide), dcl, b2 _ (Nat.lt_succ_self _), nI_bit hx (by omega), pk_sub (by omega), bI_nI, nI_shl (by omega) (by
      have : 2 ^ (7 - M.length % 8) ≤ 2 ^ 7 := Nat.pow_le_pow_right (by decide) (by omega)
      split <;> omega), nI_or, nI_add]
    refine ⟨din, din, fun f2 e2 v3 e3 => ?_⟩
    rintro _ rfl
    rw [nI_m1]
    have r37 : f2 37 = fun k => if k = M.length / 8 then nI (byV M (M.length / 8) ||| (if x.testBit m = true then 1 else 0) * 2 ^ (7 - M.length % 8)) else f5 37 k := by rw [e2, mU_s]
    have wm : m = w - (i + 1) := by omega
    refine ih _ (by omega) ⟨M ++ [x.testBit m], v3, f2, by rw [← wm]; exact a0', fun j hj => by rw [e3, upd_n hj]; exact a1 j hj, fun n hn => by rw [e2, mU_n hn]; exact b1 n hn, ⟨by rw [e3, List.length_append]; exact upd_at, fun k hk => ?_⟩, by rw [← wm]⟩
    rw [List.length_append] at hk
    replace hk : k < (M.length + 1 + 7) / 8 := hk
    rw [r37, byV_app]
    show (if k = M.length / 8 then _ else f5 37 k) = _
    by_cases e : k = M.length / 8
    · rw [if_pos e]
      by_cases t : x.testBit m = true
      · rw [if_pos t, if_pos ⟨e, t⟩, Nat.one_mul, e]
      · rw [if_neg t, if_neg (fun q => t q.2), Nat.zero_mul, Nat.or_zero, e]
    · rw [if_neg e, if_neg (fun q => e q.1)]
      exact b2 k (by omega)
  refine ⟨fun c => absurd c (nI_pos (by omega)), fun _ => ?_⟩
  rw [a3, pk_rem (by omega) (by decide) (by decide), pk_div (by omega) (by decide) (by decide), dcl]
  refine w_nz (M.length % 8) (fun c => main f' a2 (fun k hk => a4 k (by omega))) (fun c => ⟨din, fun f5 e5 => ?_⟩)
  have r37 : f5 37 = fun k => if k = M.length / 8 then nI 0 else f' 37 k := by rw [e5, mU_s]
  refine main f5 (fun n hn => by rw [e5, mU_n hn]; exact a2 n hn) (fun k hk => ?_)
  rw [r37]
  show (if k = M.length / 8 then nI 0 else f' 37 k) = _
  by_cases e : k = M.length / 8
  · rw [if_pos e, byV_0 (by omega)]
  · rw [if_neg e]; exact a4 k (by omega)
theorem orL_2 {a x w : Nat} : a ||| x < 2 ^ w ↔ a < 2 ^ w ∧ x < 2 ^ w := by
  have := orL_lt (w := w) (l := [a, x])
  rw [show orL [a, x] = a ||| x from by show a ||| (x ||| 0) = _; rw [Nat.or_zero]] at this
  rw [this]
  constructor
  · intro h; exact ⟨h a (by simp), h x (by simp)⟩
  · rintro ⟨h1, h2⟩ y hy
    rcases List.mem_cons.mp hy with rfl | hy
    · exact h1
    · rw [List.mem_singleton.mp hy]; exact h2
/-- numbers packed by four -/
theorem p_packs164 {Q : QV} {xs : List Nat} (hR : pkR v f []) (hP : plR f xs) (h128 : ∀ x, x ∈ xs → x < 128) (hn : xs.length ≤ 2290) (hE : (encN xs).length ≤ 19200) (h : ∀ v' f', (∀ i, i ≠ 58 → v' i = v i) → (∀ n, n ≠ 37 → f' n = f n) → pkR v' f' (encN xs) → Q v' f' g) : r_packs_164L Q (nI xs.length) (nI 0) v f g := by
  unfold r_packs_164L
  refine lfp_cnt ((xs.length + 3) / 4) (fun c y => ∃ M v' f', M ++ encN (xs.drop (4 * c)) = encN xs ∧ (∀ i, i ≠ 58 → v' i = v i) ∧ (∀ n, n ≠ 37 → f' n = f n) ∧ pkR v' f' M ∧ y = (nI xs.length, nI (4 * c), v', f', g)) ?_ ⟨[], v, f, rfl, fun _ _ => rfl, fun _ _ => rfl, hR, rfl⟩
  rintro P c _ hc ⟨M, v', f', a0, a1, a2, a3, rfl⟩ ih
  show r_packs_164 Q _ (nI xs.length) (nI (4 * c)) v' f' g
  unfold r_packs_164
  refine pk_le xs.length (4 * c) (fun z => ?_) (fun z => ?_)
  · rw [List.drop_of_length_le z, encN_nil, List.append_nil] at a0
    exact h v' f' a1 a2 (by rw [← a0]; exact a3)
  have P36 : ∀ k x, xs[k]? = some x → f' 36 k = nI x := fun k x hk => by rw [a2 36 (by decide)]; exact hP k x hk
  obtain ⟨ys, hys⟩ : ∃ ys, ys = (xs.drop (4 * c)).take 4 := ⟨_, rfl⟩
  have yl : ys.length = min 4 (xs.length - 4 * c) := by rw [hys, List.length_take, List.length_drop]
  have yne : ys ≠ [] := fun e => by rw [e] at yl; simp at yl; omega
  have yg : ∀ i x, ys[i]? = some x → xs[4 * c + i]? = some x ∧ i < 4 := fun i x hi => by
    have il := get_lt hi
    rw [hys, List.getElem?_take, if_pos (by omega), List.getElem?_drop] at hi
    exact ⟨hi, by omega⟩
  have y128 : ∀ x, x ∈ ys → x < 2 ^ 7 := fun x hx => by
    obtain ⟨i, hi⟩ := List.getElem?_of_mem hx
    exact h128 x (List.mem_of_getElem? (yg i x hi).1)
  have wle : ∀ i, widN (orL (ys.take i)) ≤ 7 := fun i => widN_le.mpr (orL_lt.mpr (fun x hx => y128 x (List.mem_of_mem_take hx)))
  have enc : encN (xs.drop (4 * c)) = (bitsN (wid ys) 4 ++ flB (wid ys) ys) ++ encN (xs.drop (4 * (c + 1))) := by
    rw [encN_4, ← hys, List.drop_drop, show 4 * c + 4 = 4 * (c + 1) by omega]
    unfold grp
    rw [if_neg yne]
  rw [enc] at a0
  have lenM : M.length + 4 + wid ys * ys.length ≤ 19200 := by
    have := congrArg List.length a0
    rw [List.length_append, List.length_append, List.length_append, bitsN_len, flB_len] at this
    omega
  have w7 : wid ys ≤ 7 := by have := wle ys.length; rwa [List.take_length] at this
  -- the group is written
  have wr : r_packs_219 Q (fun b0 b1 v f g => P (b0, b1, v, f, g)) (nI xs.length) (nI (4 * c)) (nI (wid ys)) v' f' g := by
    unfold r_packs_219
    refine p_writesBits a3 (by omega) (by decide) (by omega) (fun v1 f1 c1 c2 c3 => ?_)
    unfold r_packs_230L
    refine lfp_cnt ys.length (fun i y => ∃ v2 f2, (∀ i, i ≠ 58 → v2 i = v i) ∧ (∀ n, n ≠ 37 → f2 n = f n) ∧ pkR v2 f2 ((M ++ bitsN (wid ys) 4) ++ flB (wid ys) (ys.take i)) ∧ y = (nI xs.length, nI (4 * c), nI (wid ys), nI (4 * c + i), v2, f2, g)) ?_ ⟨v1, f1, fun i hi => (c1 i hi).trans (a1 i hi), fun n hn => (c2 n hn).trans (a2 n hn), by rw [List.take_zero, show flB (wid ys) [] = [] from rfl, List.append_nil]; exact c3, rfl⟩
    rintro P2 i _ hi ⟨v2, f2, d1, d2, d3, rfl⟩ ih2
    show r_packs_230 Q _ _ (nI xs.length) (nI (4 * c)) (nI (wid ys)) (nI (4 * c + i)) v2 f2 g
    have fin : i = ys.length → r_packs_265 Q (fun b0 b1 v f g => P (b0, b1, v, f, g)) (nI xs.length) (nI (4 * c)) v2 f2 g := by
      intro e
      subst e
      rw [List.take_length] at d3
      unfold r_packs_265
      rintro _ rfl
      rw [nI_add, show 4 * c + 4 = 4 * (c + 1) by omega]
      refine ih _ (by omega) ⟨_, v2, f2, ?_, d1, d2, d3, rfl⟩
      rw [← a0, List.append_assoc, List.append_assoc, List.append_assoc]
    unfold r_packs_230
    rw [nI_add]
    refine pk_le xs.length (4 * c + i) (fun z2 => fin (by omega)) (fun z2 => pk_le (4 * c + 4) (4 * c + i) (fun z3 => fin (by omega)) (fun z3 => ⟨pk_in (4 * c + i) 2300 (by omega), ?_⟩))
    obtain ⟨x, hx⟩ := get_ex (l := ys) (k := i) (by omega)
    have xl := y128 x (List.mem_of_getElem? hx)
    rw [nI_clamp (show 4 * c + i < 2 ^ 31 by omega), d2 36 (by decide), hP _ x (yg i x hx).1]
    refine p_writesBits d3 (by omega) (by omega) ?_ (fun v3 f3 g1 g2 g3 => ?_)
    · rw [List.length_append, List.length_append, bitsN_len, flB_len, List.length_take, Nat.min_eq_left (by omega)]
      have : wid ys * i + wid ys ≤ wid ys * ys.length := by
        rw [← Nat.mul_succ]; exact Nat.mul_le_mul_left _ (by omega)
      omega
    · rintro _ rfl
      rw [nI_add]
      refine ih2 _ (by omega) ⟨v3, f3, fun i hi => (g1 i hi).trans (d1 i hi), fun n hn => (g2 n hn).trans (d2 n hn), ?_, by rw [Nat.add_assoc]⟩
      rw [flB_take hx, ← List.append_assoc]
      exact g3
  -- how many bits
  unfold r_packs_178L
  refine lfp_cnt ys.length (fun i y => y = (nI xs.length, nI (4 * c), nI (widN (orL (ys.take i))), nI (4 * c + i), v', f', g)) ?_ rfl
  rintro P3 i _ hi rfl ih3
  show r_packs_178 Q _ _ (nI xs.length) (nI (4 * c)) (nI (widN (orL (ys.take i)))) (nI (4 * c + i)) v' f' g
  have fin : i = ys.length → r_packs_219 Q (fun b0 b1 v f g => P (b0, b1, v, f, g)) (nI xs.length) (nI (4 * c)) (nI (widN (orL (ys.take i)))) v' f' g := by
    intro e
    rw [e, List.take_length]
    exact wr
  unfold r_packs_178
  rw [nI_add]
  refine pk_le xs.length (4 * c + i) (fun z2 => fin (by omega)) (fun z2 => pk_le (4 * c + 4) (4 * c + i) (fun z3 => fin (by omega)) (fun z3 => ?_))
  obtain ⟨x, hx⟩ := get_ex (l := ys) (k := i) (by omega)
  have xl := y128 x (List.mem_of_getElem? hx)
  have ot := orL_take hx
  have w7' := wle (i + 1)
  unfold r_packs_194L
  refine lfp_ind (fun y => ∃ b, widN (orL (ys.take i)) ≤ b ∧ b ≤ widN (orL (ys.take (i + 1))) ∧ y = (nI xs.length, nI (4 * c), nI b, nI (4 * c + i), v', f', g)) (fun y => 8 - y.2.2.1.toNatClampNeg) ?_ ⟨_, Nat.le_refl _, ?_, rfl⟩
  · rintro P4 _ ⟨b, b1, b2, rfl⟩ ih4
    show r_packs_194 Q _ _ _ (nI xs.length) (nI (4 * c)) (nI b) (nI (4 * c + i)) v' f' g
    unfold r_packs_194
    rw [nI_clamp (show 4 * c + i < 2 ^ 31 by omega), P36 _ x (yg i x hx).1, nI_shr (by omega) (by omega)]
    have dl : x / 2 ^ b < 2 ^ 31 := by have := Nat.div_le_self x (2 ^ b); omega
    refine ⟨pk_in (4 * c + i) 2300 (by omega), pk_le (x / 2 ^ b) 0 (fun z4 => ?_) (fun z4 => ?_)⟩
    · rintro _ rfl
      rw [nI_add, Nat.add_assoc]
      have e0 : x / 2 ^ b = 0 := Nat.eq_zero_of_le_zero z4
      have xb : x < 2 ^ b := widN_le.mp (widN_div.mp e0)
      have hb : b = widN (orL (ys.take (i + 1))) := Nat.le_antisymm b2 (widN_le.mpr (by rw [ot]; exact orL_2.mpr ⟨widN_le.mp b1, xb⟩))
      rw [hb]
      exact ih3 _ (by omega) rfl
    · rintro _ rfl
      rw [nI_add]
      have hb : b < widN (orL (ys.take (i + 1))) := by
        rcases Nat.lt_or_ge b (widN (orL (ys.take (i + 1)))) with q | q
        · exact q
        · have := widN_le.mp q
          rw [ot] at this
          have := widN_div.mpr (widN_le.mpr (orL_2.mp this).2)
          omega
      refine ih4 _ ⟨b + 1, by omega, hb, rfl⟩ ?_
      show 8 - (nI (b + 1)).toNatClampNeg < 8 - (nI b).toNatClampNeg
      rw [nI_clamp (by omega), nI_clamp (by omega)]
      omega
  · have h1 : orL (ys.take (i + 1)) < 2 ^ widN (orL (ys.take (i + 1))) := widN_le.mp (Nat.le_refl _)
    rw [ot] at h1
    exact widN_le.mpr (by rw [ot]; exact (orL_2.mp h1).1)
end PK
