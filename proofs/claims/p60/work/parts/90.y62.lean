/-! the class: what a query gives -/
def jc (v : Nat → Option Nat) (f : Nat) : Nat → Nat
  | 0 => 0
  | n + 1 => jc v f n + (if (v (f + n)).isSome = true then 1 else 0)
def js (v : Nat → Option Nat) (f : Nat) : Nat → Nat
  | 0 => 0
  | n + 1 => js v f n + (v (f + n)).getD 0
/-- a group -/
def jn (d : Nd) (v : Nat → Option Nat) (f : Nat) : Option Nat := if nK d = 7 then (if jc v f (nP d) = 1 then v f else none) else if jc v f (nP d) < nL d then none else some (js v f (nP d))
/-- after k nodes: what each part gives -/
def evS (nd : Nat → Nd) (gv : Nat → Option Nat) : Nat → Nat → Option Nat
  | 0 => fun _ => none
  | k + 1 => if nLf (nd k) = true then upR (evS nd gv k) (qsS nd k).1 (gv (lfI nd k).length) else upR (evS nd gv k) ((qsS nd k).1 - nP (nd k)) (jn (nd k) (evS nd gv k) ((qsS nd k).1 - nP (nd k)))
/-- the nodes are well made -/
def qOk (nd : Nat → Nd) (m : Nat) : Prop := ∀ k, k < m → (nLf (nd k) = true → (qsS nd k).1 < 8 ∧ nF (nd k) < 2 ∧ (tkOk (nd k) ∨ tlOk (nd k))) ∧ (nLf (nd k) = false → 6 ≤ nK (nd k) ∧ nK (nd k) ≤ 7 ∧ 1 ≤ nP (nd k) ∧ nP (nd k) ≤ (qsS nd k).1 ∧ nL (nd k) ≤ 8)
theorem js_add {v : Nat → Option Nat} {f a : Nat} : ∀ b : Nat, js v f (a + b) = js v f a + js v (f + a) b
  | 0 => rfl
  | b + 1 => by rw [← Nat.add_assoc, js, js, js_add b, Nat.add_assoc, Nat.add_assoc f a b]
theorem js_ext {v w : Nat → Option Nat} {f : Nat} : ∀ {n : Nat}, (∀ i, i < n → v (f + i) = w (f + i)) → js v f n = js w f n
  | 0, _ => rfl
  | n + 1, h => by rw [js, js, js_ext (n := n) (fun i hi => h i (by omega)), h n (by omega)]
theorem jc_ext {v w : Nat → Option Nat} {f : Nat} : ∀ {n : Nat}, (∀ i, i < n → v (f + i) = w (f + i)) → jc v f n = jc w f n
  | 0, _ => rfl
  | n + 1, h => by rw [jc, jc, jc_ext (n := n) (fun i hi => h i (by omega)), h n (by omega)]
theorem js_le {v : Nat → Option Nat} {f i : Nat} : ∀ {n : Nat}, i < n → (v (f + i)).getD 0 ≤ js v f n
  | 0, h => absurd h (Nat.not_lt_zero i)
  | n + 1, h => by
    rw [js]
    by_cases c : i = n
    · subst c; omega
    · have := js_le (v := v) (f := f) (i := i) (n := n) (by omega)
      omega
theorem jc_le {v : Nat → Option Nat} {f : Nat} : ∀ n : Nat, jc v f n ≤ n
  | 0 => Nat.le_refl _
  | n + 1 => by
    have := jc_le (v := v) (f := f) n
    rw [jc]; split <;> omega
theorem jn_le {d : Nd} {v : Nat → Option Nat} {f : Nat} (h : 1 ≤ nP d) : (jn d v f).getD 0 ≤ js v f (nP d) := by
  unfold jn
  split
  · split
    · exact js_le (i := 0) h
    · exact Nat.zero_le _
  · split
    · exact Nat.zero_le _
    · exact Nat.le_refl _
theorem lfI_mono {nd : Nat → Nd} {k : Nat} : ∀ {m : Nat}, k ≤ m → (lfI nd k).length ≤ (lfI nd m).length
  | 0, h => by rw [show k = 0 by omega]; exact Nat.le_refl _
  | m + 1, h => by
    by_cases c : k = m + 1
    · subst c; exact Nat.le_refl _
    · have := lfI_mono (nd := nd) (k := k) (m := m) (by omega)
      rw [lfI, List.length_append]; omega
theorem lfI_s {nd : Nat → Nd} {k : Nat} (h : nLf (nd k) = true) : (lfI nd (k + 1)).length = (lfI nd k).length + 1 := by
  rw [lfI, if_pos h, List.length_append]; rfl
theorem lfI_n {nd : Nat → Nd} {k : Nat} (h : nLf (nd k) = false) : lfI nd (k + 1) = lfI nd k := by
  rw [lfI, h, if_neg Bool.false_ne_true, List.append_nil]
theorem qs_s {nd : Nat → Nd} {k : Nat} (h : nLf (nd k) = true) : (qsS nd (k + 1)).1 = (qsS nd k).1 + 1 := by rw [qsS, if_pos h]
theorem qs_n {nd : Nat → Nd} {k : Nat} (h : nLf (nd k) = false) : (qsS nd (k + 1)).1 = (qsS nd k).1 - (nP (nd k) - 1) := by rw [qsS, h, if_neg Bool.false_ne_true]
theorem qOk_le {nd : Nat → Nd} {m : Nat} (hq : qOk nd m) : ∀ k : Nat, k ≤ m → (qsS nd k).1 ≤ 8
  | 0, _ => by rw [qsS]; decide
  | k + 1, h => by
    have ih := qOk_le hq k (by omega)
    obtain ⟨h1, h2⟩ := hq k (by omega)
    cases c : nLf (nd k) with
    | true => rw [qs_s c]; have := (h1 c).1; omega
    | false => rw [qs_n c]; omega
theorem ev_s {nd : Nat → Nd} {gv : Nat → Option Nat} {k : Nat} (h : nLf (nd k) = true) : evS nd gv (k + 1) = upR (evS nd gv k) (qsS nd k).1 (gv (lfI nd k).length) := by rw [evS, if_pos h]
theorem ev_n {nd : Nat → Nd} {gv : Nat → Option Nat} {k : Nat} (h : nLf (nd k) = false) : evS nd gv (k + 1) = upR (evS nd gv k) ((qsS nd k).1 - nP (nd k)) (jn (nd k) (evS nd gv k) ((qsS nd k).1 - nP (nd k))) := by rw [evS, h, if_neg Bool.false_ne_true]
/-- what is given is bound -/
theorem js_ev {nd : Nat → Nd} {gv : Nat → Option Nat} {m G : Nat} (hq : qOk nd m) (hG : ∀ i, (gv i).getD 0 ≤ G) : ∀ k : Nat, k ≤ m → js (evS nd gv k) 0 (qsS nd k).1 ≤ G * (lfI nd k).length
  | 0, _ => by rw [qsS]; exact Nat.zero_le _
  | k + 1, h => by
    have ih := js_ev hq hG k (by omega)
    obtain ⟨h1, h2⟩ := hq k (by omega)
    cases c : nLf (nd k) with
    | true =>
      rw [qs_s c, ev_s c, lfI_s c, js, Nat.mul_succ, Nat.zero_add, upR_s]
      have e : js (upR (evS nd gv k) (qsS nd k).1 (gv (lfI nd k).length)) 0 (qsS nd k).1 = js (evS nd gv k) 0 (qsS nd k).1 := js_ext (fun i hi => upR_n (by omega))
      have := hG (lfI nd k).length
      rw [e]; omega
    | false =>
      obtain ⟨a1, a2, a3, a4, a5⟩ := h2 c
      rw [qs_n c, ev_n c, lfI_n c, show (qsS nd k).1 - (nP (nd k) - 1) = (qsS nd k).1 - nP (nd k) + 1 by omega, js, Nat.zero_add, upR_s]
      have e : js (upR (evS nd gv k) ((qsS nd k).1 - nP (nd k)) (jn (nd k) (evS nd gv k) ((qsS nd k).1 - nP (nd k)))) 0 ((qsS nd k).1 - nP (nd k)) = js (evS nd gv k) 0 ((qsS nd k).1 - nP (nd k)) := js_ext (fun i hi => upR_n (by omega))
      have j1 := jn_le (v := evS nd gv k) (f := (qsS nd k).1 - nP (nd k)) a3
      have j2 := js_add (v := evS nd gv k) (f := 0) (a := (qsS nd k).1 - nP (nd k)) (nP (nd k))
      rw [Nat.zero_add, show (qsS nd k).1 - nP (nd k) + nP (nd k) = (qsS nd k).1 by omega] at j2
      rw [e]; omega
theorem cIn_ne {o : Option Nat} (h : o.getD 0 < 2 ^ 31) : cIn o = -1 ↔ o = none := by
  cases o with
  | none => exact ⟨fun _ => rfl, fun _ => rfl⟩
  | some s =>
    refine ⟨fun e => ?_, fun e => absurd e (by simp)⟩
    have h' : s < 2 ^ 31 := h
    have := nI_pos (n := s) h'
    rw [show nI s = (-1 : Int32) from e] at this
    exact absurd (by decide) this
section VAL
variable {S T U : cS} {ρ ρ' : Nat → Nat} {dp p q b m τ κ : Nat} {d : Nd} {fl : Bool} {nd : Nat → Nd}
theorem q_isLeaf {Q : Int32 → cS → Prop} (g : ndT S ρ κ p d fl) (h : Q (bI (nLf d)) S) : k_X4_isLeaf Q dp p S := by
  obtain ⟨g1, g2, ⟨i1, -⟩, -⟩ := g
  unfold k_X4_isLeaf
  rw [i1]
  have c : ckN (nK d) < 6 ∧ (4 ≤ ckN (nK d) ↔ 6 ≤ nK d) := by
    unfold ckN
    split
    · omega
    · split
      · omega
      · split
        · omega
        · split
          · omega
          · split <;> omega
  refine ⟨g1, pk_le 4 (ckN (nK d)) (fun z => ?_) (fun z => ?_)⟩
  · rw [show nLf d = false from decide_eq_false (by have := c.2.mp z; omega)] at h; exact h
  · rw [show nLf d = true from decide_eq_true (by have := c.2; omega)] at h; exact h
theorem q_joined {Q : Int32 → cS → Prop} {v : Nat → Option Nat} {f : Nat} (g : ndT S ρ κ p d fl) (hk : 6 ≤ nK d ∧ nK d ≤ 7) (hP : 1 ≤ nP d) (hf : f + nP d ≤ 8) (hL : nL d ≤ 8) (qA : cA S q 6) (hr : cr S 196 q = some b) (bA : cA S b 14) (hn : cn S b = 8) (hv : ∀ i, i < f + nP d → cI S b i = cIn (v i) ∧ (v i).getD 0 < 2 ^ 31) (h : Q (cIn (jn d v f)) S) : k_X6_joined Q dp q p (nI f) S := by
  obtain ⟨g1, g2, ⟨i1, i2, i3, i4, i5, i6⟩, -⟩ := g
  unfold k_X6_joined k_X6_joined_8L
  refine lfp_cnt (nP d) (fun i y => y = (q, p, nI f, nI (js v f i), nI (jc v f i), nI (f + i), S)) ?_ rfl
  rintro P i _ hi rfl ih
  show k_X6_joined_8 Q dp _ q p (nI f) (nI (js v f i)) (nI (jc v f i)) (nI (f + i)) S
  have X : ∀ {j : Nat}, j < 8 → cX S b 14 (nI j) := fun hj => cX_mk bA hn (by decide) hj rfl
  unfold k_X6_joined_8
  rw [i5, nI_add]
  refine ⟨g1, pk_le (f + nP d) (f + i) (fun z => ?_) (fun z => ⟨qA, b, hr, bA, ?_⟩)⟩
  · obtain rfl : i = nP d := by omega
    have cl := jc_le (v := v) (f := f) (nP d)
    unfold k_X6_joined_59
    rw [i1, i3]
    unfold jn at h
    by_cases c : nK d = 7
    · rw [if_pos c] at h
      rw [show ckN (nK d) = 5 by rw [c]; rfl]
      refine ⟨g1, fun w => absurd rfl w, fun _ => w_ne (jc v f (nP d)) 1 (fun w => ?_) (fun w => w_pos f ⟨qA, b, hr, bA, ?_⟩)⟩
      · rw [if_neg w] at h; exact h
      · rw [if_pos w] at h
        rw [hn]
        refine pk_le 8 f (fun z2 => absurd z2 (by omega)) (fun z2 => ⟨qA, b, hr, X z2, ?_⟩)
        rw [nI_clamp (show f < 2 ^ 31 by omega), (hv f (by omega)).1]
        exact h
    · rw [if_neg c] at h
      rw [show ckN (nK d) = 4 by rw [show nK d = 6 by omega]; rfl]
      refine ⟨g1, fun _ => ⟨g1, pk_lt (jc v f (nP d)) (nL d) (fun w => ?_) (fun w => ?_)⟩, fun w => absurd w (by decide)⟩
      · rw [if_pos w] at h; exact h
      · rw [if_neg (by omega)] at h; exact h
  · rw [hn]
    refine pk_le 8 (f + i) (fun z2 => absurd z2 (by omega)) (fun z2 => ⟨qA, b, hr, X z2, ?_⟩)
    obtain ⟨v1, v2⟩ := hv (f + i) z
    rw [nI_clamp (show f + i < 2 ^ 31 by omega), v1]
    have go : ∀ s c, s = js v f (i + 1) → c = jc v f (i + 1) → k_X6_joined_53 Q dp (fun b0 b1 b2 b3 b4 b5 S => P (b0, b1, b2, b3, b4, b5, S)) q p (nI f) (nI s) (nI c) (nI (f + i)) S := by
      intro s c hs hc
      unfold k_X6_joined_53
      rintro _ rfl
      rw [nI_add, hs, hc]
      exact ih _ (by omega) rfl
    refine ⟨fun e => ?_, fun e => ⟨qA, b, hr, X z2, ?_⟩⟩
    · have e' := (cIn_ne v2).mp e
      refine go _ _ ?_ ?_
      · rw [js, e']; rfl
      · rw [jc, e']; rfl
    · cases e' : v (f + i) with
      | none => exact absurd (by rw [e']; rfl) e
      | some s =>
        rw [v1, e', show cIn (some s) = nI s from rfl]
        rintro _ rfl _ rfl
        rw [nI_add, nI_add]
        refine go _ _ ?_ ?_
        · rw [js, e']; rfl
        · rw [jc, e']; rfl
theorem q_valueOf {Q : Int32 → cS → Prop} {gr G : Nat} {gv : Nat → Option Nat} (g : gQy S ρ dp τ κ q m nd) (hq : qOk nd m) (h1 : (qsS nd m).1 = 1) (hl : (lfI nd m).length ≤ 24) (hτ : τ ≠ 18) (hκ : κ ≠ 18) (hm : m < 100) (hG : ∀ i, (gv i).getD 0 ≤ G) (hG2 : G < 2 ^ 26) (gA : cA S gr 14) (gn : cn S gr = 24) (gρ : ρ gr ≠ 18) (hv : ∀ i, i < (lfI nd m).length → cI S gr i = cIn (gv i)) (h : ∀ T, fr S T ρ ρ [18] → Q (cIn (evS nd gv m 0)) T) : k_X6_valueOf Q dp q gr S := by
  obtain ⟨g1, g2, g3, ⟨nl, ws, wm, ll, ls, lm, ⟨n1, n2, n3, n4, n5, n6, n7, n8⟩, -, -⟩, -, ⟨b, b1, b2, b3, b4⟩⟩ := g
  have qb : q ≠ b := fun e => hτ (by rw [← g2, e, b4])
  have gb : gr ≠ b := fun e => gρ (by rw [e, b4])
  have fin : ∀ {S' : cS}, cSub S S' (fun z => z = b) → fr S S' ρ ρ [18] := fun s => ⟨sub_wk s (fun a _ z => by rw [z, b4]; exact List.mem_singleton.mpr rfl), fun _ _ _ => rfl⟩
  unfold k_X6_valueOf k_X6_valueOf_7L
  refine lfp_cnt m (fun k y => ∃ S', cSub S S' (fun z => z = b) ∧ (∀ i, i < (qsS nd k).1 → cI S' b i = cIn (evS nd gv k i)) ∧ y = (q, gr, nI (qsS nd k).1, nI (lfI nd k).length, nI k, S')) ?_ ⟨S, sub_rf, fun i hi => absurd hi (by rw [qsS]; exact Nat.not_lt_zero i), rfl⟩
  rintro P k _ hk ⟨S', s', hw, rfl⟩ ih
  show k_X6_valueOf_7 Q dp _ q gr (nI (qsS nd k).1) (nI (lfI nd k).length) (nI k) S'
  have f' := fin s'
  have q' := sub_A1 s' g1
  have rr : ∀ z, cr S' z q = cr S z q := fun z => sub_cr s' g1 qb
  have l' : lsT S' dp nl 4 ws wm := lsT_sub s' n2 (fun z hz e => hτ (by rw [← n3 z hz, e, b4]))
  have b' := sub_A1 s' b2
  have bn' : cn S' b = 8 := (sub_cn s' b2).trans b3
  have b196 : cr S' 196 q = some b := (rr _).trans b1
  have h8 := qOk_le hq k hk
  have X : ∀ {S'' : cS} {j : Nat}, cA S'' b 14 → cn S'' b = 8 → j < 8 → cX S'' b 14 (nI j) := fun hA hn hj => cX_mk hA hn (by decide) hj rfl
  unfold k_X6_valueOf_7
  refine ⟨q', nl, (rr _).trans n1, l'.1, q_lsize l' ?_⟩
  rw [n6]
  refine pk_le m k (fun z => ?_) (fun z => ?_)
  · obtain rfl : k = m := by omega
    rw [h1]
    refine ⟨fun w => absurd rfl w, fun _ => ⟨q', b, b196, X b' bn' (by decide), ?_⟩⟩
    rw [show (nI 0).toNatClampNeg = 0 from nI_clamp (by decide), hw 0 (by omega)]
    exact h S' f'
  obtain ⟨p, hp⟩ : ∃ p, ws[k]? = some p := ⟨_, List.getElem?_eq_getElem (by omega)⟩
  have np := ndT_fr f' (by simpa using hκ) (fun a _ e => e) (n8 k p hp)
  refine ⟨q', nl, (rr _).trans n1, l'.1, q_lget l' hp ⟨np.1, np.1, q_isLeaf np ?_⟩⟩
  obtain ⟨o1, o2⟩ := hq k z
  have fin115 : ∀ {U : cS} {hh ll : Nat}, cSub S U (fun z => z = b) → hh = (qsS nd (k + 1)).1 → ll = (lfI nd (k + 1)).length → (∀ i, i < (qsS nd (k + 1)).1 → cI U b i = cIn (evS nd gv (k + 1) i)) → k_X6_valueOf_115 Q dp (fun b0 b1 b2 b3 b4 S => P (b0, b1, b2, b3, b4, S)) q gr (nI hh) (nI ll) (nI k) U := by
    intro U hh ll s e1 e2 hU
    unfold k_X6_valueOf_115
    rintro _ rfl
    rw [nI_add, e1, e2]
    exact ih _ z ⟨U, s, hU, rfl⟩
  refine w_b0 (nLf (nd k)) (fun c => ?_) (fun c => ?_)
  · obtain ⟨a1, a2, a3, a4, a5⟩ := o2 c
    refine ⟨np.1, ?_⟩
    rw [np.2.2.1.2.2.2.2.1, pk_sub a4, if_neg (show ¬ nI ((qsS nd k).1 - nP (nd k)) < nI 0 from nI_pos (by omega))]
    rintro _ rfl
    refine ⟨q', b, b196, b', ?_⟩
    rw [bn']
    refine pk_le 8 ((qsS nd k).1 - nP (nd k)) (fun w => absurd w (by omega)) (fun w => ⟨q', b, b196, q', ?_⟩)
    have tot := js_ev hq hG k hk
    have lk := lfI_mono (nd := nd) hk
    have tot2 : G * (lfI nd k).length ≤ G * 24 := Nat.mul_le_mul_left G (by omega)
    refine q_joined np ⟨a1, a2⟩ a3 (by omega) a5 q' b196 b' bn' (v := evS nd gv k) (fun i hi => ⟨hw i (by omega), ?_⟩) ⟨X b' bn' w, fun S12 e12 => ?_⟩
    · have := js_le (v := evS nd gv k) (f := 0) (i := i) (n := (qsS nd k).1) (by omega)
      rw [Nat.zero_add] at this
      omega
    rintro _ rfl
    rw [nI_clamp (show (qsS nd k).1 - nP (nd k) < 2 ^ 31 by omega)] at e12
    rw [nI_add]
    refine fin115 (sub_tr s' (e12 ▸ sub_SI rfl) (fun _ _ z => z)) (by rw [qs_n c]; omega) (by rw [lfI_n c]) (fun i hi => ?_)
    rw [qs_n c] at hi
    rw [ev_n c]
    by_cases e : i = (qsS nd k).1 - nP (nd k)
    · subst e; rw [upR_s]; exact heI_SI_s e12
    · rw [upR_n e]; exact heI_SI_k e12 e (hw i (by omega))
  · obtain ⟨a1, -⟩ := o1 c
    refine ⟨q', b, b196, b', ?_⟩
    rw [bn']
    have lk := lfI_mono (nd := nd) (k := k + 1) (m := m) (by omega)
    rw [lfI_s c] at lk
    have g' := sub_A1 s' gA
    have gn' : cn S' gr = 24 := (sub_cn s' gA).trans gn
    refine pk_le 8 (qsS nd k).1 (fun w => absurd w (by omega)) (fun w => ⟨q', b, b196, g', ?_⟩)
    rw [gn']
    refine pk_le 24 (lfI nd k).length (fun w2 => absurd w2 (by omega)) (fun w2 => ⟨cX_mk g' gn' (by decide) w2 rfl, ?_⟩)
    rw [nI_clamp (show (lfI nd k).length < 2 ^ 31 by omega), sub_cI s' gA gb, hv _ (by omega)]
    unfold k_X6_valueOf_68
    refine ⟨X b' bn' w, fun S17 e17 => ?_⟩
    rintro _ rfl
    rw [nI_clamp (show (qsS nd k).1 < 2 ^ 31 by omega)] at e17
    unfold k_X6_valueOf_72
    rintro _ rfl
    rw [nI_add, nI_add]
    refine fin115 (sub_tr s' (e17 ▸ sub_SI rfl) (fun _ _ z => z)) (by rw [qs_s c]) (by rw [lfI_s c]) (fun i hi => ?_)
    rw [qs_s c] at hi
    rw [ev_s c]
    by_cases e : i = (qsS nd k).1
    · subst e; rw [upR_s]; exact heI_SI_s e17
    · rw [upR_n e]; exact heI_SI_k e17 e (hw i (by omega))
end VAL
