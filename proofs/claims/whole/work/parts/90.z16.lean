/-! the reference: entries that were used, the newest last -/
/-- one more use -/
def tkS (R : List (Nat × Nat)) (y : Nat × Nat) (R' : List (Nat × Nat)) (b : Bool) : Prop := ∃ a, R' = R.eraseIdx a ++ [y] ∧ ((b = true ∧ R[a]? = some y) ∨ (b = false ∧ y ∉ R ∧ a = if R.length = 8 then 0 else R.length))
def tkR (qn : Nat) (ids : List Nat) : Nat → List (Nat × Nat) × Nat → List (Nat × Nat) × Nat → Prop
  | 0, s, s' => s' = s
  | k + 1, s, s' => ∃ s1, tkR qn ids k s s1 ∧ ∃ n b, ids[k]? = some n ∧ tkS s1.1 (qn, n) s'.1 b ∧ s'.2 = s1.2 + (if b = true then 1 else 0)
/-- the uses in rows -/
def rCa (v : Nat → Int32) (f : Nat → Nat → Int32) (R : List (Nat × Nat)) : Prop := v 85 = nI R.length ∧ R.length ≤ 8 ∧ ∀ i y, R[i]? = some y → f 57 i = nI y.1 ∧ f 58 i = nI y.2 ∧ y.1 < 2 ^ 31 ∧ y.2 < 2 ^ 31
theorem er_len {α : Type} {l : List α} {a : Nat} : (l.eraseIdx a).length = if a < l.length then l.length - 1 else l.length := List.length_eraseIdx
theorem er_get {α : Type} {l : List α} {a j : Nat} : (l.eraseIdx a)[j]? = if j < a then l[j]? else l[j + 1]? := List.getElem?_eraseIdx
theorem tkS_len {R R' : List (Nat × Nat)} {y : Nat × Nat} {b : Bool} (h : tkS R y R' b) (h8 : R.length ≤ 8) : R'.length ≤ 8 := by
  obtain ⟨a, rfl, h2⟩ := h
  rw [List.length_append, er_len]
  show _ + 1 ≤ 8
  rcases h2 with ⟨-, h2⟩ | ⟨-, -, h2⟩
  · have := get_lt h2
    rw [if_pos this]; omega
  · by_cases c : R.length = 8
    · rw [if_pos c] at h2
      rw [h2, if_pos (by omega)]; omega
    · rw [if_neg c] at h2
      rw [h2, if_neg (by omega)]; omega
section TK
variable {v v' : Nat → Int32} {f f' : Nat → Nat → Int32} {g g' : Nat → Nat → Int64} {R : List (Nat × Nat)}
theorem rCa_fr (h1 : v' 85 = v 85) (h2 : f' 57 = f 57) (h3 : f' 58 = f 58) (h : rCa v f R) : rCa v' f' R := by
  unfold rCa
  rw [h1, h2, h3]; exact h
theorem p_takes121 {Q : QI} {a b : Nat} {y : Nat × Nat} (y31 : y.1 < 2 ^ 31 ∧ y.2 < 2 ^ 31) {x4 : Int32} (hb : isZ x4) (h85 : v 85 = nI (b + 1)) (hab : a ≤ b) (hb8 : b < 8) (hE : (R.eraseIdx a).length = b) (hR : ∀ i z, R[i]? = some z → f 57 i = nI z.1 ∧ f 58 i = nI z.2 ∧ z.1 < 2 ^ 31 ∧ z.2 < 2 ^ 31) (h : ∀ f', (∀ n, n ≠ 57 → n ≠ 58 → f' n = f n) → rCa v f' (R.eraseIdx a ++ [y]) → Q x4 v f' g) : r_takes_121L Q (nI y.1) (nI y.2) x4 (nI a) v f g := by
  unfold r_takes_121L
  refine lfp_cnt (b - a) (fun i s => ∃ f2, (∀ n, n ≠ 57 → n ≠ 58 → f2 n = f n) ∧ (∀ j z, (R.eraseIdx a)[j]? = some z → j < a + i → f2 57 j = nI z.1 ∧ f2 58 j = nI z.2) ∧ (∀ j, a + i ≤ j → f2 57 j = f 57 j ∧ f2 58 j = f 58 j) ∧ s = (nI y.1, nI y.2, x4, nI (a + i), v, f2, g)) ?_ ⟨f, fun _ _ _ => rfl, fun j z hz hj => ?_, fun _ _ => ⟨rfl, rfl⟩, rfl⟩
  · rintro P i _ hi ⟨f2, a1, a2, a3, rfl⟩ ih
    show r_takes_121 Q _ (nI y.1) (nI y.2) x4 (nI (a + i)) v f2 g
    unfold r_takes_121
    rw [h85, pk_sub (show 1 ≤ b + 1 by omega), show b + 1 - 1 = b by omega, nI_add, nI_clamp (show b < 2 ^ 31 by omega), nI_clamp (show a + i < 2 ^ 31 by omega), nI_clamp (show a + i + 1 < 2 ^ 31 by omega)]
    have bin : vp_in (nI b) 8 := pk_in b 8 hb8
    refine pk_le (b + 1) (a + i + 1) (fun z => ?_) (fun z => ?_)
    · obtain rfl : i = b - a := by omega
      refine ⟨bin, ?_⟩
      intro f3 e3
      refine ⟨bin, ?_⟩
      intro f4 e4
      refine ⟨hb, h f4 (fun n h1 h2 => by rw [e4, mU_n h2, e3, mU_n h1]; exact a1 n h1 h2) ⟨?_, ?_, fun i z hz => ?_⟩⟩
      · rw [h85, List.length_append, hE]; rfl
      · rw [List.length_append, hE]; show b + 1 ≤ 8; omega
      · have r57 : f4 57 i = if i = b then nI y.1 else f2 57 i := by rw [e4, mU_n (by decide), e3, mU_s]
        have r58 : f4 58 i = if i = b then nI y.2 else f2 58 i := by rw [e4, mU_s, e3, mU_n (by decide)]
        rw [r57, r58]
        rcases app1_get.mp hz with hz | ⟨h1, h2⟩
        · have lt := get_lt hz
          have e0 := a2 i z hz (by omega)
          rw [if_neg (by omega), if_neg (by omega)]
          refine ⟨e0.1, e0.2, ?_⟩
          rw [er_get] at hz
          split at hz
          · exact (hR _ z hz).2.2
          · exact (hR _ z hz).2.2
        · rw [h1, hE, if_pos rfl, if_pos rfl, h2]
          exact ⟨rfl, rfl, y31⟩
    · have in1 : vp_in (nI (a + i + 1)) 8 := pk_in (a + i + 1) 8 (by omega)
      have in0 : vp_in (nI (a + i)) 8 := pk_in (a + i) 8 (by omega)
      refine ⟨in1, in0, ?_⟩
      intro f3 e3
      refine ⟨in1, in0, ?_⟩
      intro f4 e4
      rintro _ rfl
      have r57 : ∀ j, f4 57 j = if j = a + i then f2 57 (a + i + 1) else f2 57 j := fun j => by rw [e4, mU_n (by decide), e3, mU_s]
      have r58 : ∀ j, f4 58 j = if j = a + i then f2 58 (a + i + 1) else f2 58 j := fun j => by rw [e4, mU_s, e3, mU_n (by decide)]
      refine ih _ (by omega) ⟨f4, fun n h1 h2 => by rw [e4, mU_n h2, e3, mU_n h1]; exact a1 n h1 h2, fun j z hz hj => ?_, fun j hj => ?_, by rw [Nat.add_assoc]⟩
      · rw [r57, r58]
        by_cases c : j = a + i
        · rw [if_pos c, if_pos c]
          rw [er_get, if_neg (by omega), c] at hz
          have e0 := hR _ z hz
          have e1 := a3 (a + i + 1) (by omega)
          rw [e1.1, e1.2]
          exact ⟨e0.1, e0.2.1⟩
        · rw [if_neg c, if_neg c]
          exact a2 j z hz (by omega)
      · rw [r57, r58, if_neg (by omega), if_neg (by omega)]
        exact a3 j (by omega)
  · rw [er_get, if_pos (by omega)] at hz
    have e0 := hR _ z hz
    exact ⟨e0.1, e0.2.1⟩
theorem p_takes {Q : QI} {y : Nat × Nat} (y31 : y.1 < 2 ^ 31 ∧ y.2 < 2 ^ 31) (hR : rCa v f R) (h : ∀ v' f' R' b, (∀ i, i ≠ 85 → v' i = v i) → (∀ n, n ≠ 57 → n ≠ 58 → f' n = f n) → tkS R y R' b → rCa v' f' R' → Q (bI b) v' f' g) : r_takes Q (nI y.1) (nI y.2) v f g := by
  obtain ⟨h85, h8, hr⟩ := hR
  unfold r_takes
  intro x3 ex3
  rw [ex3]
  unfold r_takes_5L
  refine lfp_cnt R.length (fun i s => ∃ x3 : Int32, ((x3 = -1 ∧ ∀ j, j < i → R[j]? ≠ some y) ∨ ∃ k, x3 = nI k ∧ k < i ∧ R[k]? = some y) ∧ s = (nI y.1, nI y.2, x3, nI i, v, f, g)) ?_ ⟨-1, Or.inl ⟨rfl, fun j hj => absurd hj (Nat.not_lt_zero j)⟩, rfl⟩
  rintro P i _ hi ⟨x3, hx3, rfl⟩ ih
  show r_takes_5 Q _ (nI y.1) (nI y.2) x3 (nI i) v f g
  unfold r_takes_5
  rw [h85]
  refine pk_le R.length i (fun z => ?_) (fun z => ?_)
  · obtain rfl : i = R.length := by omega
    rcases hx3 with ⟨rfl, hno⟩ | ⟨k, rfl, hk, hk2⟩
    · have hnin : y ∉ R := fun w => by
        obtain ⟨j, hj⟩ := List.mem_iff_getElem?.mp w
        exact hno j (get_lt hj) hj
      refine ⟨fun _ => ?_, fun w => absurd rfl w⟩
      unfold r_takes_59
      refine ⟨fun _ => ?_, fun w => absurd rfl w⟩
      rw [h85]
      refine w_ne R.length 8 (fun c => ?_) (fun c => ?_)
      · unfold r_takes_87
        rw [h85]
        refine ⟨fun w => absurd rfl w, fun _ => pk_le 8 R.length (fun w => absurd w (by omega)) (fun _ => ?_)⟩
        unfold r_takes_113
        intro v2 e2
        have el : R.eraseIdx R.length = R := List.ext_getElem? (fun j => by
          rw [er_get]
          split
          · rfl
          · rw [List.getElem?_eq_none (by omega), List.getElem?_eq_none (by omega)])
        refine p_takes121 (R := R) (a := R.length) (b := R.length) y31 ⟨false, rfl⟩ (by rw [e2, upd_at, nI_add]) (Nat.le_refl _) (by omega) (by rw [el]) hr (fun f' a1 a2 => h v2 f' _ false (fun i hi => by rw [e2, upd_n hi]) a1 ⟨R.length, rfl, Or.inr ⟨rfl, hnin, by rw [if_neg c]⟩⟩ a2)
      · unfold r_takes_87
        rw [h85]
        refine ⟨fun w => absurd rfl w, fun _ => pk_le 8 R.length (fun _ => ?_) (fun w => absurd w (by omega))⟩
        unfold r_takes_112 r_takes_113
        intro v2 e2
        have el : (R.eraseIdx 0).length = 7 := by rw [er_len, if_pos (by omega)]; omega
        refine p_takes121 (R := R) (a := 0) (b := 7) y31 ⟨false, rfl⟩ (by rw [e2, upd_at, nI_add, c]) (by omega) (by omega) el hr (fun f' a1 a2 => h v2 f' _ false (fun i hi => by rw [e2, upd_n hi]) a1 ⟨0, rfl, Or.inr ⟨rfl, hnin, by rw [if_pos c]⟩⟩ a2)
    · refine ⟨fun w => absurd w (fun w => ?_), fun _ => ?_⟩
      · have := nI_pos (n := k) (by omega)
        rw [w] at this
        exact absurd (by decide) this
      unfold r_takes_59
      refine ⟨fun w => absurd w (by decide), fun _ => ?_⟩
      unfold r_takes_87
      refine ⟨fun _ => ?_, fun w => absurd w (by decide)⟩
      unfold r_takes_112 r_takes_113
      intro v2 e2
      have el : (R.eraseIdx k).length = R.length - 1 := by rw [er_len, if_pos hk]
      refine p_takes121 (R := R) (a := k) (b := R.length - 1) y31 ⟨true, rfl⟩ (by rw [e2, upd_at, h85, nI_add]; congr 1; omega) (by omega) (by omega) el hr (fun f' a1 a2 => h v2 f' _ true (fun i hi => by rw [e2, upd_n hi]) a1 ⟨k, rfl, Or.inl ⟨rfl, hk2⟩⟩ a2)
  · obtain ⟨z0, hz0⟩ := get_ex (l := R) (k := i) z
    obtain ⟨e1, e2, b1, b2⟩ := hr i z0 hz0
    have iin : vp_in (nI i) 8 := pk_in i 8 (by omega)
    have nof : z0 ≠ y → r_takes_41 Q (fun b0 b1 b2 b3 v f g => P (b0, b1, b2, b3, v, f, g)) (nI y.1) (nI y.2) x3 (nI i) v f g := by
      intro hne
      unfold r_takes_41 r_takes_42
      rintro _ rfl
      rw [nI_add]
      refine ih _ z ⟨x3, ?_, rfl⟩
      rcases hx3 with ⟨w, hno⟩ | ⟨k, w, hk, hk2⟩
      · refine Or.inl ⟨w, fun j hj => ?_⟩
        by_cases c : j = i
        · rw [c, hz0]; intro w2; exact hne (Option.some.inj w2)
        · exact hno j (by omega)
      · exact Or.inr ⟨k, w, by omega, hk2⟩
    rw [nI_clamp (show i < 2 ^ 31 by omega), e1, e2]
    refine ⟨iin, w_ne z0.1 y.1 (fun c => nof (fun w => c (by rw [w]))) (fun c => ⟨iin, w_ne z0.2 y.2 (fun c2 => nof (fun w => c2 (by rw [w]))) (fun c2 => ?_) rfl rfl b2 y31.2⟩) rfl rfl b1 y31.1⟩
    unfold r_takes_42
    rintro _ rfl
    rw [nI_add]
    exact ih _ z ⟨nI i, Or.inr ⟨i, rfl, by omega, by rw [hz0, show z0 = y from Prod.ext c c2]⟩, rfl⟩
end TK
