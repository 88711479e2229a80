/-! the reference: looks, files -/
theorem w_B0 {b : Bool} {A B : Prop} (f : b = false → A) (g : b = true → B) : (bI b = 0 → A) ∧ (¬ bI b = 0 → B) := w_b0 b f g
theorem w_Bn {b : Bool} {A B : Prop} (f : b = true → A) (g : b = false → B) : (¬ bI b = 0 → A) ∧ (bI b = 0 → B) := w_bn b f g
/-- the slots of snapshots -/
def rLk (f : Nat → Nat → Int32) (made : Nat) (sg : Nat → List Dc) (sl : Nat → Option (Nat × Vw)) : Prop := ∀ k, k < 5 → (sl k = none → f 29 k = -1) ∧ ∀ s, sl k = some s → (f 29 k = nI s.1 ∧ s.1 < 2 ^ 30) ∧ f 31 k = nI s.2.1.length ∧ s.2.1.length ≤ 200 ∧ (∀ j n, s.2.1[j]? = some n → f 30 (202 * k + j) = nI n ∧ n < made) ∧ ∀ n, n ∈ s.2.1 → ∀ j, j < (sg n).length → f 32 (20200 * k + (100 * n + j)) = bI (s.2.2 n j)
/-- whether a slot's snapshot names a segment -/
def lkM (sl : Nat → Option (Nat × Vw)) (n k : Nat) : Bool := match sl k with
  | some s => decide (n ∈ s.2.1)
  | none => false
theorem nI_neg {n : Nat} (h : n < 2 ^ 31) : ¬ nI n = -1 := fun e => by
  have : (nI n).toInt = (-1 : Int32).toInt := congrArg Int32.toInt e
  rw [nI_toInt h] at this
  revert this
  show ((n : Int) = -1) → False
  omega
section LK
variable {v v' : Nat → Int32} {f f' : Nat → Nat → Int32} {g g' : Nat → Nat → Int64} {l : LGt} {made dn : Nat} {sg : Nat → List Dc} {hd : Nat → Nat → Nat} {sl : Nat → Option (Nat × Vw)} {ids : List Nat} {lv : Nat → Nat → Bool} {cm pr : Option Vw} {mg : Option (Vw × Nat)} {off : Bool}
theorem p_isInLooks {Q : QI} {n : Nat} (hn : n < 2 ^ 31) (hm : made < 1000) (hk : rLk f made sg sl) (h : Q (bI (anyB (lkM sl n) 5)) v f g) : r_isInLooks Q (nI n) v f g := by
  unfold r_isInLooks r_isInLooks_4L
  refine lfp_cnt 5 (fun k y => y = (nI n, bI (anyB (lkM sl n) k), nI k, v, f, g)) ?_ rfl
  rintro P k _ hk5 rfl ih
  show r_isInLooks_4 Q _ (nI n) (bI (anyB (lkM sl n) k)) (nI k) v f g
  unfold r_isInLooks_4
  refine pk_le 5 k (fun z => ⟨⟨_, rfl⟩, ?_⟩) (fun z => ?_)
  · obtain rfl : k = 5 := by omega
    exact h
  have next : ∀ t : Bool, t = anyB (lkM sl n) (k + 1) → r_isInLooks_66 Q (fun b0 b1 b2 v f g => P (b0, b1, b2, v, f, g)) (nI n) (bI t) (nI k) v f g := by
    intro t ht
    unfold r_isInLooks_66
    rintro _ rfl
    rw [nI_add, ht]
    exact ih _ z rfl
  have kin : vp_in (nI k) 5 := pk_in k 5 z
  have kc : (nI k).toNatClampNeg = k := nI_clamp (by omega)
  unfold r_isInLooks_12L
  cases hs : sl k with
  | none =>
    refine fun P2 hP2 => hP2 _ ?_
    show r_isInLooks_12 Q _ _ (nI n) (bI (anyB (lkM sl n) k)) (nI k) (nI 0) v f g
    unfold r_isInLooks_12
    rw [kc, (hk k z).1 hs]
    refine ⟨kin, fun _ => next _ ?_, fun c => absurd rfl c⟩
    show _ = (anyB (lkM sl n) k || lkM sl n k)
    have : lkM sl n k = false := by unfold lkM; rw [hs]
    rw [this, Bool.or_false]
  | some s =>
    obtain ⟨⟨s1, s2⟩, s3, s4, s5, -⟩ := (hk k z).2 s hs
    have last : lkM sl n k = decide (n ∈ s.2.1) := by unfold lkM; rw [hs]
    refine lfp_cnt s.2.1.length (fun j y => y = (nI n, bI (anyB (lkM sl n) k || decide (n ∈ s.2.1.take j)), nI k, nI j, v, f, g)) ?_ (by
      show _ = (nI n, bI (anyB (lkM sl n) k || decide (n ∈ s.2.1.take 0)), nI k, nI 0, v, f, g)
      rw [List.take_zero]
      simp)
    rintro P2 j _ hj rfl ih2
    show r_isInLooks_12 Q _ _ (nI n) (bI (anyB (lkM sl n) k || decide (n ∈ s.2.1.take j))) (nI k) (nI j) v f g
    unfold r_isInLooks_12
    rw [kc, s1, s3]
    refine ⟨kin, fun c => absurd c (nI_neg (by omega)), fun _ => ⟨kin, pk_le s.2.1.length j (fun z2 => next _ ?_) (fun z2 => ?_)⟩⟩
    · rw [List.take_of_length_le z2]
      show _ = (anyB (lkM sl n) k || lkM sl n k)
      rw [last]
    obtain ⟨m, hm2⟩ := get_ex z2
    obtain ⟨t1, t2⟩ := s5 j m hm2
    have tm := tk_mem (n := n) hm2
    have go : ∀ t : Bool, t = (anyB (lkM sl n) k || decide (n ∈ s.2.1.take (j + 1))) → r_isInLooks_59 Q (fun b0 b1 b2 v f g => P (b0, b1, b2, v, f, g)) (fun b0 b1 b2 b3 v f g => P2 (b0, b1, b2, b3, v, f, g)) (nI n) (nI k) (nI j) (bI t) v f g := by
      intro t ht
      unfold r_isInLooks_59
      rintro _ rfl
      rw [nI_add, ht]
      exact ih2 _ z2 rfl
    refine w_bn (anyB (lkM sl n) k || decide (n ∈ s.2.1.take j)) (fun e => go true (by rw [tm, ← Bool.or_assoc, e]; rfl)) (fun e => ?_)
    rw [pk_mul, nI_add, nI_clamp (show 202 * k + j < 2 ^ 31 by omega), t1]
    refine ⟨pk_in (202 * k + j) 1010 (by omega), w_ne m n (fun c => go false (by rw [tm, ← Bool.or_assoc, e, decide_eq_false c]; rfl)) (fun c => go true (by rw [tm, ← Bool.or_assoc, e, decide_eq_true c]; rfl))⟩
/-- whether a view that may be missing tells of a dead document of a segment -/
def dvB (sg : Nat → List Dc) (o : Option Vw) (n : Nat) : Bool := match o with
  | some s => decide (n ∈ s.1) && anyB (fun j => !s.2 n j) (sg n).length
  | none => false
/-- whether both tell the same -/
def svB (f : Nat → Nat → Int32) (sg : Nat → List Dc) (n : Nat) : Bool := allB (fun j => decide (f 26 (100 * n + j) = f 28 (100 * n + j))) (sg n).length
/-- the files of a segment -/
def rfN (f : Nat → Nat → Int32) (sg : Nat → List Dc) (ids : List Nat) (cm pr : Option Vw) (sl : Nat → Option (Nat × Vw)) (n : Nat) : Nat := (if (decide (n ∈ ovL cm) || decide (n ∈ ovL pr) || decide (n ∈ ids) || anyB (lkM sl n) 5) = true then 1 else 0) + ((if dvB sg cm n = true then 1 else 0) + (if (dvB sg pr n && !(dvB sg cm n && svB f sg n)) = true then 1 else 0))
/-- all files -/
def rfA (f : Nat → Nat → Int32) (sg : Nat → List Dc) (made : Nat) (ids : List Nat) (mg : Option (Vw × Nat)) (cm pr : Option Vw) (sl : Nat → Option (Nat × Vw)) : Nat := (if cm.isSome = true then 1 else 0) + (if pr.isSome = true then 1 else 0) + (if mgC mg = 0 then 0 else 1) + smN (rfN f sg ids cm pr sl) made
theorem bI_nI (b : Bool) : bI b = nI (if b = true then 1 else 0) := by cases b <;> rfl
theorem anyB_s (q : Nat → Bool) (n : Nat) : anyB q (n + 1) = (anyB q n || q n) := rfl
theorem smN_s (f : Nat → Nat) (n : Nat) : smN f (n + 1) = smN f n + f n := rfl
theorem allB_s (q : Nat → Bool) (n : Nat) : allB q (n + 1) = (allB q n && q n) := by
  rw [Bool.eq_iff_iff, Bool.and_eq_true, allB_iff, allB_iff]
  constructor
  · intro h
    exact ⟨fun i hi => h i (by omega), h n (Nat.lt_succ_self n)⟩
  · rintro ⟨h1, h2⟩ i hi
    by_cases c : i = n
    · subst c; exact h2
    · exact h1 i (by omega)
/-- the deletions of a segment -/
theorem p_files117 {Q : QI} {R48 : Int32 → Int32 → (Nat → Int32) → (Nat → Nat → Int32) → (Nat → Nat → Int64) → Prop} {x n N : Nat} {c1 c2 : Bool} {a b : Nat → Bool} (hn : n < 202) (hN : N ≤ 100) (h20 : f 20 n = nI N) (ha : c1 = true → ∀ j, j < N → f 26 (100 * n + j) = bI (a j)) (hb : c2 = true → ∀ j, j < N → f 28 (100 * n + j) = bI (b j))
    (h : R48 (nI (x + ((if anyB (fun j => c1 && !a j) N = true then 1 else 0) + (if (anyB (fun j => c2 && !b j) N && !(anyB (fun j => c1 && !a j) N && allB (fun j => decide (f 26 (100 * n + j) = f 28 (100 * n + j))) N)) = true then 1 else 0)))) (nI (n + 1)) v f g) : r_filesNow_117L Q R48 (nI x) (nI n) (bI c1) (bI c2) (nI 0) (nI 0) (nI 1) (nI (100 * n)) v f g := by
  unfold r_filesNow_117L
  refine lfp_cnt N (fun j y => y = (nI x, nI n, bI c1, bI c2, bI (anyB (fun j => c1 && !a j) j), bI (anyB (fun j => c2 && !b j) j), bI (allB (fun j => decide (f 26 (100 * n + j) = f 28 (100 * n + j))) j), nI (100 * n + j), v, f, g)) ?_ rfl
  rintro P j _ hj rfl ih
  show r_filesNow_117 Q R48 _ (nI x) (nI n) (bI c1) (bI c2) (bI (anyB (fun j => c1 && !a j) j)) (bI (anyB (fun j => c2 && !b j) j)) (bI (allB (fun j => decide (f 26 (100 * n + j) = f 28 (100 * n + j))) j)) (nI (100 * n + j)) v f g
  unfold r_filesNow_117
  rw [nI_clamp (show n < 2 ^ 31 by omega), h20, pk_mul, nI_add]
  refine ⟨pk_in n 202 hn, pk_le (100 * n + N) (100 * n + j) (fun z => ?_) (fun z => ?_)⟩
  · obtain rfl : j = N := by omega
    have fin : ∀ t0 t1 : Nat, t0 = (if (anyB (fun j => c2 && !b j) j && !(anyB (fun j => c1 && !a j) j && allB (fun j' => decide (f 26 (100 * n + j') = f 28 (100 * n + j'))) j)) = true then 1 else 0) → t1 = (if anyB (fun j => c1 && !a j) j = true then 1 else 0) → r_filesNow_252 Q R48 (nI n) (nI t0) (nI t1) (nI x) v f g := by
      intro t0 t1 e0 e1
      unfold r_filesNow_252
      rintro _ rfl _ rfl
      rw [nI_add, nI_add, nI_add, e0, e1]
      exact h
    have fin2 : ∀ t1 : Nat, t1 = (if anyB (fun j => c1 && !a j) j = true then 1 else 0) → r_filesNow_232 Q R48 (nI n) (bI (anyB (fun j => c1 && !a j) j)) (bI (anyB (fun j => c2 && !b j) j)) (bI (allB (fun j' => decide (f 26 (100 * n + j') = f 28 (100 * n + j'))) j)) (nI t1) (nI x) v f g := by
      intro t1 e1
      unfold r_filesNow_232 r_filesNow_251
      exact w_B0 (fun e => fin 0 t1 (by rw [e]; rfl) e1) (fun e => w_B0 (fun e2 => fin 1 t1 (by rw [e, e2]; rfl) e1) (fun e2 => w_Bn (fun e3 => fin 0 t1 (by rw [e, e2, e3]; rfl) e1) (fun e3 => fin 1 t1 (by rw [e, e2, e3]; rfl) e1)))
    exact w_B0 (fun e => fin2 0 (by rw [e]; rfl)) (fun e => fin2 1 (by rw [e]; rfl))
  · have lt : 100 * n + j < 20200 := by omega
    have inc : vp_in (nI (100 * n + j)) 20200 := pk_in (100 * n + j) 20200 lt
    have jc : (nI (100 * n + j)).toNatClampNeg = 100 * n + j := nI_clamp (by omega)
    have s3 : ∀ t : Bool, t = allB (fun j => decide (f 26 (100 * n + j) = f 28 (100 * n + j))) (j + 1) → r_filesNow_213 Q R48 (fun b0 b1 b2 b3 b4 b5 b6 b7 v f g => P (b0, b1, b2, b3, b4, b5, b6, b7, v, f, g)) (nI x) (nI n) (bI c1) (bI c2) (bI (anyB (fun j => c1 && !a j) (j + 1))) (bI (anyB (fun j => c2 && !b j) (j + 1))) (nI (100 * n + j)) (bI t) v f g := by
      intro t ht
      unfold r_filesNow_213
      rintro _ rfl
      rw [nI_add, ht]
      exact ih _ (by omega) rfl
    have s2 : ∀ t : Bool, t = anyB (fun j => c2 && !b j) (j + 1) → r_filesNow_184 Q R48 (fun b0 b1 b2 b3 b4 b5 b6 b7 v f g => P (b0, b1, b2, b3, b4, b5, b6, b7, v, f, g)) (nI x) (nI n) (bI c1) (bI c2) (bI (anyB (fun j => c1 && !a j) (j + 1))) (bI (allB (fun j => decide (f 26 (100 * n + j) = f 28 (100 * n + j))) j)) (nI (100 * n + j)) (bI t) v f g := by
      intro t ht
      subst ht
      have al := allB_s (fun j => decide (f 26 (100 * n + j) = f 28 (100 * n + j))) j
      unfold r_filesNow_184 r_filesNow_212
      refine w_B0 (fun e => s3 false (by rw [al, e]; rfl)) (fun e => ⟨inc, inc, ?_⟩)
      rw [jc]
      exact w_i (fun c => s3 false (by rw [al, e, decide_eq_false c]; rfl)) (fun c => s3 true (by rw [al, e, decide_eq_true c]; rfl))
    have s1 : ∀ t : Bool, t = anyB (fun j => c1 && !a j) (j + 1) → r_filesNow_157 Q R48 (fun b0 b1 b2 b3 b4 b5 b6 b7 v f g => P (b0, b1, b2, b3, b4, b5, b6, b7, v, f, g)) (nI x) (nI n) (bI c1) (bI c2) (bI (anyB (fun j => c2 && !b j) j)) (bI (allB (fun j => decide (f 26 (100 * n + j) = f 28 (100 * n + j))) j)) (nI (100 * n + j)) (bI t) v f g := by
      intro t ht
      subst ht
      have al := anyB_s (fun j => c2 && !b j) j
      unfold r_filesNow_157 r_filesNow_183
      refine w_Bn (fun e => s2 true (by rw [al, e]; rfl)) (fun e => w_b0 c2 (fun e2 => s2 false (by rw [al, e]; show false = (false || (c2 && !b j)); rw [e2]; rfl)) (fun e2 => ⟨inc, ?_⟩))
      rw [jc, hb e2 j (by omega)]
      exact w_bn (b j) (fun e3 => s2 false (by rw [al, e]; show false = (false || (c2 && !b j)); rw [e2, e3]; rfl)) (fun e3 => s2 true (by rw [al, e]; show true = (false || (c2 && !b j)); rw [e2, e3]; rfl))
    have al := anyB_s (fun j => c1 && !a j) j
    unfold r_filesNow_156
    refine w_Bn (fun e => s1 true (by rw [al, e]; rfl)) (fun e => w_b0 c1 (fun e2 => s1 false (by rw [al, e]; show false = (false || (c1 && !a j)); rw [e2]; rfl)) (fun e2 => ⟨inc, ?_⟩))
    rw [jc, ha e2 j (by omega)]
    exact w_bn (a j) (fun e3 => s1 false (by rw [al, e]; show false = (false || (c1 && !a j)); rw [e2, e3]; rfl)) (fun e3 => s1 true (by rw [al, e]; show true = (false || (c1 && !a j)); rw [e2, e3]; rfl))
theorem any_c {c : Bool} {q : Nat → Bool} : ∀ n : Nat, anyB (fun j => c && q j) n = (c && anyB q n)
  | 0 => by cases c <;> rfl
  | n + 1 => by
    rw [anyB_s, anyB_s, any_c n]
    cases c <;> rfl
theorem rOv_row {fl ct row lr : Nat} {o : Option Vw} (ho : rOv v f fl ct row lr made sg o) (n : Nat) (hn : decide (n ∈ ovL o) = true) : ∃ s, o = some s ∧ ∀ j, j < (sg n).length → f lr (100 * n + j) = bI (s.2 n j) := by
  have hm := of_decide_eq_true hn
  cases o with
  | none => exact absurd hm List.not_mem_nil
  | some s => exact ⟨s, rfl, (ho.2 s rfl).2.2.2 n hm⟩
def oLv (o : Option Vw) (n j : Nat) : Bool := match o with
  | some s => s.2 n j
  | none => true
theorem dvB_any {o : Option Vw} {n : Nat} : dvB sg o n = anyB (fun j => decide (n ∈ ovL o) && !oLv o n j) (sg n).length := by
  rw [any_c]
  cases o with
  | none => show false = (decide (n ∈ ([] : List Nat)) && _); simp
  | some s => rfl
theorem p_filesNow {Q : QI} (hs : rSg l v f g made dn sg hd) (hi : rIx v f made sg ids lv) (hc : rOv v f 35 37 25 26 made sg cm) (hp : rOv v f 40 42 27 28 made sg pr) (hk : rLk f made sg sl) (h49 : v 49 = bI mg.isSome) (h53 : mg ≠ none → v 53 = nI (mgC mg)) (hmg : mgC mg < 1000) (h : Q (nI (rfA f sg made ids mg cm pr sl)) v f g) : r_filesNow Q v f g := by
  have m201 := hs.1.2
  have main : ∀ x : Nat, x = (if cm.isSome = true then 1 else 0) + (if pr.isSome = true then 1 else 0) + (if mgC mg = 0 then 0 else 1) → r_filesNow_48L Q (nI x) (nI 0) v f g := by
    intro x hx
    unfold r_filesNow_48L
    refine lfp_cnt made (fun k y => y = (nI (x + smN (rfN f sg ids cm pr sl) k), nI k, v, f, g)) ?_ rfl
    rintro P n _ hn rfl ih
    show r_filesNow_48 Q _ (nI (x + smN (rfN f sg ids cm pr sl) n)) (nI n) v f g
    unfold r_filesNow_48
    rw [hs.1.1]
    refine pk_le made n (fun z => ?_) (fun z => ?_)
    · obtain rfl : n = made := by omega
      rw [hx]
      exact h
    obtain ⟨u1, u2, -⟩ := hs.2.2 n z
    have step : ∀ t : Nat, t = (if (decide (n ∈ ovL cm) || decide (n ∈ ovL pr) || decide (n ∈ ids) || anyB (lkM sl n) 5) = true then 1 else 0) → r_filesNow_100 Q (fun b0 b1 v f g => P (b0, b1, v, f, g)) (nI n) (bI (decide (n ∈ ovL cm))) (bI (decide (n ∈ ovL pr))) (nI t) (nI (x + smN (rfN f sg ids cm pr sl) n)) v f g := by
      intro t ht
      unfold r_filesNow_100
      rintro _ rfl _ rfl
      rw [pk_mul, nI_add]
      refine p_files117 (N := (sg n).length) (a := oLv cm n) (b := oLv pr n) (by omega) u2 u1 (fun q j hj => ?_) (fun q j hj => ?_) ?_
      · obtain ⟨s, e, hr⟩ := rOv_row hc n q
        rw [hr j hj]
        subst e
        rfl
      · obtain ⟨s, e, hr⟩ := rOv_row hp n q
        rw [hr j hj]
        subst e
        rfl
      · rw [← dvB_any (o := cm), ← dvB_any (o := pr)]
        refine ih _ z ?_
        show (nI (x + smN (rfN f sg ids cm pr sl) n + t + ((if dvB sg cm n = true then 1 else 0) + (if (dvB sg pr n && !(dvB sg cm n && svB f sg n)) = true then 1 else 0))), nI (n + 1), v, f, g) = _
        have e : x + smN (rfN f sg ids cm pr sl) (n + 1) = x + smN (rfN f sg ids cm pr sl) n + t + ((if dvB sg cm n = true then 1 else 0) + (if (dvB sg pr n && !(dvB sg cm n && svB f sg n)) = true then 1 else 0)) := by
          rw [smN_s, ht, ← Nat.add_assoc x]
          show x + smN (rfN f sg ids cm pr sl) n + (_ + (_ + _)) = _
          rw [← Nat.add_assoc (x + smN (rfN f sg ids cm pr sl) n)]
        rw [e]
    refine p_isInCommit (by omega) (by omega) hc (p_isInPrepared (by omega) (by omega) hp ?_)
    refine w_Bn (fun e => step 1 (by rw [e]; rfl)) (fun e => w_Bn (fun e2 => step 1 (by rw [e2, Bool.or_true]; rfl)) (fun e2 => p_isInIndex (by omega) (by omega) hi (w_Bn (fun e3 => step 1 (by rw [e3, Bool.or_true]; rfl)) (fun e3 => p_isInLooks (by omega) (by omega) hk (w_B0 (fun e4 => step 0 (by rw [e, e2, e3, e4]; rfl)) (fun e4 => step 1 (by rw [e4, Bool.or_true]; rfl)))))))
  have m3 : ∀ a b : Nat, a = (if cm.isSome = true then 1 else 0) → b = (if pr.isSome = true then 1 else 0) → r_filesNow_24 Q (nI b) (nI a) v f g := by
    intro a b ea eb
    unfold r_filesNow_24 r_filesNow_43 r_filesNow_44
    rw [h49, nI_add]
    refine w_b0 mg.isSome (fun e => ?_) (fun e => ?_)
    · rintro _ rfl
      have : mg = none := by
        cases mg with
        | none => rfl
        | some m => exact absurd e (by simp)
      rw [nI_add]
      exact main _ (by rw [ea, eb, this]; rfl)
    · have hne : mg ≠ none := fun q => by rw [q] at e; exact absurd e (by simp)
      rw [h53 hne]
      refine pk_le (mgC mg) 0 (fun z => ?_) (fun z => ?_)
      · rintro _ rfl
        rw [nI_add]
        exact main _ (by rw [ea, eb, if_pos (show mgC mg = 0 by omega)])
      · rintro _ rfl
        rw [nI_add]
        exact main _ (by rw [ea, eb, if_neg (show ¬ mgC mg = 0 by omega)])
  have m2 : ∀ a : Nat, a = (if cm.isSome = true then 1 else 0) → r_filesNow_12 Q (nI a) v f g := by
    intro a ea
    unfold r_filesNow_12
    rw [hp.1]
    exact w_b0 pr.isSome (fun e => m3 a 0 ea (by rw [e]; rfl)) (fun e => m3 a 1 ea (by rw [e]; rfl))
  unfold r_filesNow
  rw [hc.1]
  exact w_b0 cm.isSome (fun e => m2 0 (by rw [e]; rfl)) (fun e => m2 1 (by rw [e]; rfl))
theorem p_files {Q : QI} (h98 : v 98 = bI off) (hs : rSg l v f g made dn sg hd) (hi : rIx v f made sg ids lv) (hc : rOv v f 35 37 25 26 made sg cm) (hp : rOv v f 40 42 27 28 made sg pr) (hk : rLk f made sg sl) (h49 : v 49 = bI mg.isSome) (h53 : mg ≠ none → v 53 = nI (mgC mg)) (hmg : mgC mg < 1000) (hX : off = true → Q (nI 0) (upd v 99 (nI 1)) f g) (h : off = false → Q (nI (rfA f sg made ids mg cm pr sl)) (upd v 99 (nI 0)) f g) : r_files Q v f g := by
  unfold r_files r_files_13
  rw [h98]
  refine w_bn off (fun e => goF (b1 := false) ⟨fun _ => hX e, fun c => absurd rfl c⟩) (fun e => goF (b1 := true) ⟨fun c => absurd c (by decide), fun _ => ?_⟩)
  have o : ∀ {fl ct row lr : Nat} {o : Option Vw}, fl ≠ 99 → ct ≠ 99 → rOv v f fl ct row lr made sg o → rOv (upd v 99 (nI 0)) f fl ct row lr made sg o := fun h1 h2 h => ⟨(upd_n h1).trans h.1, fun s hs => ⟨(upd_n h2).trans (h.2 s hs).1, (h.2 s hs).2⟩⟩
  exact p_filesNow (v := upd v 99 (nI 0)) (rSg_99 hs) (rIx_99 hi) (o (by decide) (by decide) hc) (o (by decide) (by decide) hp) hk ((upd_n (by decide)).trans h49) (fun q => (upd_n (by decide)).trans (h53 q)) hmg (h e)
end LK
