/-! the reference: differs, drop -/
section DR
variable {v v' : Nat → Int32} {f f' : Nat → Nat → Int32} {g g' : Nat → Nat → Int64} {l : LGt} {made dn w : Nat} {sg : Nat → List Dc} {hd : Nat → Nat → Nat} {off : Bool} {pr : Option Vw}
theorem p_differs {Q : QI} {n N : Nat} {a b : Nat → Bool} (hn : n < 202) (hN : N ≤ 100) (h20 : f 20 n = nI N) (ha : ∀ j, j < N → f 21 (100 * n + j) = bI (a j)) (hb : ∀ j, j < N → f 22 (100 * n + j) = bI (b j)) (h : Q (bI (!allB (fun j => a j == b j) N)) v f g) : r_differs Q (nI n) v f g := by
  unfold r_differs
  rw [pk_mul]
  rintro _ rfl
  unfold r_differs_7L
  refine lfp_cnt N (fun j y => y = (nI n, bI (!allB (fun j => a j == b j) j), nI (100 * n + j), v, f, g)) ?_ rfl
  rintro P j _ hj rfl ih
  show r_differs_7 Q _ (nI n) (bI (!allB (fun j => a j == b j) j)) (nI (100 * n + j)) v f g
  unfold r_differs_7
  rw [pk_mul, nI_clamp (show n < 2 ^ 31 by omega), h20, nI_add, nI_clamp (show 100 * n + j < 2 ^ 31 by omega)]
  refine ⟨pk_in n 202 hn, pk_le (100 * n + N) (100 * n + j) (fun z => ⟨⟨_, rfl⟩, ?_⟩) (fun z => ?_)⟩
  · obtain rfl : j = N := by omega
    exact h
  have go : ∀ t : Bool, t = (!allB (fun j => a j == b j) (j + 1)) → r_differs_46 Q (fun b0 b1 b2 v f g => P (b0, b1, b2, v, f, g)) (nI n) (nI (100 * n + j)) (bI t) v f g := by
    intro t ht
    unfold r_differs_46
    rintro _ rfl
    rw [nI_add, ht]
    exact ih _ (by omega) rfl
  have step : allB (fun j => a j == b j) (j + 1) = (allB (fun j => a j == b j) j && (a j == b j)) := by
    rw [Bool.eq_iff_iff, Bool.and_eq_true, allB_iff, allB_iff]
    constructor
    · intro h
      exact ⟨fun i hi => h i (by omega), h j (Nat.lt_succ_self j)⟩
    · rintro ⟨h1, h2⟩ i hi
      by_cases c : i = j
      · subst c; exact h2
      · exact h1 i (by omega)
  have inc : vp_in (nI (100 * n + j)) 20200 := pk_in (100 * n + j) 20200 (by omega)
  refine w_bn (!allB (fun j => a j == b j) j) (fun e => go true ?_) (fun e => ⟨inc, inc, ?_⟩)
  · rw [step]
    have : allB (fun j => a j == b j) j = false := by rwa [Bool.not_eq_true'] at e
    rw [this]; rfl
  · have e' : allB (fun j => a j == b j) j = true := by rwa [Bool.not_eq_false'] at e
    rw [ha j (by omega), hb j (by omega)]
    refine ⟨fun c => go false ?_, fun c => go true ?_⟩
    · have : a j = b j := by
        cases h1 : a j <;> cases h2 : b j <;> rw [h1, h2] at c
        · exact absurd c (by decide)
        · exact absurd c.symm (by decide)
      rw [step, e', this]; simp
    · have : (a j == b j) = false := by
        cases h1 : a j <;> cases h2 : b j
        · rw [h1, h2] at c; exact absurd rfl c
        · rfl
        · rfl
        · rw [h1, h2] at c; exact absurd rfl c
      rw [step, e', this]; rfl
/-- a row is copied to another one for some segments -/
def rCp (f f' : Nat → Nat → Int32) (to fr' : Nat) (sg : Nat → List Dc) (ns : List Nat) : Prop := (∀ n, n ∈ ns → ∀ j, j < (sg n).length → f' to (100 * n + j) = f fr' (100 * n + j)) ∧ ∀ c, (∀ n, n ∈ ns → ∀ j, j < (sg n).length → c ≠ 100 * n + j) → f' to c = f to c
theorem p_drop {Q : QV} (h98 : v 98 = bI off) (hp : rOv v f 40 42 27 28 made sg pr) (hs : rSg l v f g made dn sg hd) (hz : zRw f 23 20200) (hX : off = true ∨ pr = none → Q (upd v 99 (nI 1)) f g) (h1 : ∀ s v' f', off = false → pr = some s → rF [99, 40] [22] [] v f g v' f' g → v' 99 = nI 0 → v' 40 = bI false → rCp f f' 22 23 sg s.1 → zK f f' 22 → Q v' f' g) : r_drop Q v f g := by
  have no : (off = true ∨ pr = none) → r_drop_19 Q v f g := by
    intro h
    unfold r_drop_19 r_drop_20
    exact goF (b1 := false) ⟨fun _ => hX h, fun c => absurd rfl c⟩
  unfold r_drop
  rw [h98, hp.1]
  refine w_bn off (fun e => no (Or.inl e)) (fun e => w_b0 pr.isSome (fun e2 => no (Or.inr ?_)) (fun e2 => ?_))
  · cases pr with
    | none => rfl
    | some m => exact absurd e2 (by simp)
  cases hpr : pr with
  | none => rw [hpr] at e2; exact absurd e2 (by simp)
  | some s =>
    obtain ⟨p42, p1, p2, p3⟩ := hp.2 s hpr
    unfold r_drop_20
    refine goF (b1 := true) ⟨fun c => absurd c (by decide), fun _ => ?_⟩
    rintro v2 e2'
    have v2o : ∀ j, j ≠ 99 → j ≠ 40 → v2 j = v j := fun j a1 a2 => by rw [e2', upd_n a2, upd_n a1]
    have v299 : v2 99 = nI 0 := by rw [e2', upd_n (by decide)]; exact upd_at
    have v240 : v2 40 = bI false := by rw [e2']; exact upd_at
    have v242 : v2 42 = nI s.1.length := (v2o 42 (by decide) (by decide)).trans p42
    have m201 := hs.1.2
    unfold r_drop_35L
    refine lfp_cnt s.1.length (fun k y => ∃ f2, (∀ n, n ≠ 22 → f2 n = f n) ∧ rCp f f2 22 23 sg (s.1.take k) ∧ zK f f2 22 ∧ y = (nI k, v2, f2, g)) ?_ ⟨f, fun _ _ => rfl, ⟨fun n hn => absurd hn List.not_mem_nil, fun _ _ => rfl⟩, zK_rf, rfl⟩
    rintro P k _ hk ⟨f2, a1, ⟨a2, a3⟩, a4, rfl⟩ ih
    show r_drop_35 Q _ (nI k) v2 f2 g
    unfold r_drop_35
    rw [v242, nI_clamp (show k < 2 ^ 31 by omega), a1 27 (by decide)]
    refine pk_le s.1.length k (fun z => ?_) (fun z => ⟨pk_in k 202 (by omega), ?_⟩)
    · obtain rfl : k = s.1.length := by omega
      rw [List.take_length] at a2 a3
      exact h1 s v2 f2 e hpr ⟨fun j hj => v2o j (fun e => hj (by rw [e]; decide)) (fun e => hj (by rw [e]; decide)), fun n hn => a1 n (fun e => hn (by rw [e]; decide)), fun _ _ => rfl⟩ v299 v240 ⟨a2, a3⟩ a4
    obtain ⟨n, hn⟩ := get_ex z
    obtain ⟨t1, t2⟩ := p2 k n hn
    obtain ⟨u1, u2, -⟩ := hs.2.2 n t2
    have tk : ∀ m, m ∈ s.1.take (k + 1) ↔ m ∈ s.1.take k ∨ m = n := fun m => by
      rw [List.take_add_one, hn, List.mem_append]
      exact or_congr Iff.rfl List.mem_singleton
    rw [t1, pk_mul]
    rintro _ rfl
    unfold r_drop_53L
    refine lfp_cnt (sg n).length (fun j y => ∃ f3, (∀ n, n ≠ 22 → f3 n = f n) ∧ (∀ m, m ∈ s.1.take k → ∀ j, j < (sg m).length → f3 22 (100 * m + j) = f 23 (100 * m + j)) ∧ (∀ i, i < j → f3 22 (100 * n + i) = f 23 (100 * n + i)) ∧ (∀ c, (∀ m, m ∈ s.1.take (k + 1) → ∀ j, j < (sg m).length → c ≠ 100 * m + j) → f3 22 c = f 22 c) ∧ zK f f3 22 ∧ y = (nI k, nI (100 * n + j), v2, f3, g)) ?_ ⟨f2, a1, a2, fun i hi => absurd hi (Nat.not_lt_zero i), fun c hc => a3 c (fun m hm => hc m ((tk m).mpr (Or.inl hm))), a4, rfl⟩
    rintro P2 j _ hj ⟨f3, b1, b2, b3, b4, b5, rfl⟩ ih2
    show r_drop_53 Q _ _ (nI k) (nI (100 * n + j)) v2 f3 g
    unfold r_drop_53
    rw [nI_clamp (show k < 2 ^ 31 by omega), b1 27 (by decide), t1, nI_clamp (show n < 2 ^ 31 by omega), b1 20 (by decide), u1, pk_mul, nI_add, nI_clamp (show 100 * n + j < 2 ^ 31 by omega), b1 23 (by decide)]
    refine ⟨pk_in k 202 (by omega), pk_in k 202 (by omega), pk_in n 202 (by omega), pk_le (100 * n + (sg n).length) (100 * n + j) (fun z2 => ?_) (fun z2 => ?_)⟩
    · obtain rfl : j = (sg n).length := by omega
      rintro _ rfl
      rw [nI_add]
      refine ih _ z ⟨f3, b1, ⟨fun m hm i hi => ?_, b4⟩, b5, rfl⟩
      rcases (tk m).mp hm with w | w
      · exact b2 m w i hi
      · rw [w] at hi ⊢; exact b3 i hi
    · have lt : 100 * n + j < 20200 := by omega
      have inc : vp_in (nI (100 * n + j)) 20200 := pk_in (100 * n + j) 20200 lt
      obtain ⟨bb, hbb⟩ := hz _ lt
      refine ⟨inc, inc, hz _ lt, fun f5 e5 => ?_⟩
      rintro _ rfl
      rw [nI_add]
      have r22 : f5 22 = fun c => if c = 100 * n + j then f 23 (100 * n + j) else f3 22 c := by rw [e5, mU_s]
      refine ih2 _ (by omega) ⟨f5, fun m hm => by rw [e5, mU_n hm]; exact b1 m hm, fun m hm i hi => ?_, fun i hi => ?_, fun c hc => ?_, zK_tr b5 (zK_up (b := bb) (by rw [r22, hbb])), rfl⟩
      · rw [r22]
        show (if 100 * m + i = 100 * n + j then f 23 (100 * n + j) else f3 22 (100 * m + i)) = _
        by_cases w : 100 * m + i = 100 * n + j
        · rw [if_pos w, w]
        · rw [if_neg w]; exact b2 m hm i hi
      · rw [r22]
        show (if 100 * n + i = 100 * n + j then f 23 (100 * n + j) else f3 22 (100 * n + i)) = _
        by_cases w : i = j
        · subst w; rw [if_pos rfl]
        · rw [if_neg (by omega)]; exact b3 i (by omega)
      · rw [r22]
        show (if c = 100 * n + j then _ else f3 22 c) = _
        rw [if_neg (hc n ((tk n).mpr (Or.inr rfl)) j (by omega))]; exact b4 c hc
end DR
