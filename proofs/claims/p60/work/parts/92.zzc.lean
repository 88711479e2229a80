/-! isReady: the words and the queries of the law -/
theorem fr_tm {S T U : cS} {ρ ρ' ρ'' : Nat → Nat} {M N : List Nat} (h : fr S T ρ ρ' M) (g : fr T U ρ' ρ'' N) (hN : ∀ t, t ∈ N → t ∈ M) : fr S U ρ ρ'' M := fr_tr h g (fun a ha z => by
  by_cases c : ρ a ∈ M
  · exact c
  · rw [h.2 a ha c] at z
    exact hN _ z)
def MR : List Nat := [1, 2, 3, 12, 13, 16]
/-- what isReady leaves alone -/
def RE (S0 : cS) (ρ0 : Nat → Nat) (x : Nat) (S : cS) (ρ : Nat → Nat) : Prop := fr S0 S ρ0 ρ MR ∧ (∀ z, z ≠ 362 → cr S z x = cr S0 z x) ∧ (∀ z, ci S z x = ci S0 z x) ∧ ρ x = 1
/-- the words, the parts and the queries on the way -/
def RY (S0 : cS) (ρ0 : Nat → Nat) (dp x ks : Nat) (A : Nat → Int64) (yn : Nat) (F G : Nat → Int64) (m : Nat) (nd : Nat → Nd) (qs : List (Nat × (Nat → Nd))) (S : cS) (l : List Nat) : Prop := ∃ (ρ P : Nat → Nat) (c0 c1 : Int32) (n0 : Nat) (P0 : Nat → Nat) (n1 : Nat) (P1 : Nat → Nat), RE S0 ρ0 x S ρ ∧ pdL P l ∧ gLD S ρ x l.length P ks A yn F G false c0 c1 n0 P0 n1 P1 ∧ gPr S ρ dp x m nd ∧ gQl S ρ dp x qs
section LRY
variable {S0 S T U : cS} {ρ0 ρ ρ' : Nat → Nat} {dp x ks yn m : Nat} {A F G : Nat → Int64} {nd : Nat → Nd} {qs : List (Nat × (Nat → Nd))} {l l' ws : List Nat} {M : List Nat}
theorem RE_s (h : RE S0 ρ0 x S ρ) (hx : cA S x 11) (f : fr S T ρ ρ' M) (hM : ∀ t, t ∈ M → t ∈ MR) (h1 : 1 ∉ M) : RE S0 ρ0 x T ρ' := by
  obtain ⟨a, b, c, d⟩ := h
  exact ⟨fr_tm a f hM, fun z hz => (fr_cr f hx (by rw [d]; exact h1)).trans (b z hz), fun z => (fr_ci f hx (by rw [d]; exact h1)).trans (c z), (f.2 x hx.1 (by rw [d]; exact h1)).trans d⟩
theorem RY_x (h : RY S0 ρ0 dp x ks A yn F G m nd qs T l) : cA T x 11 := by
  obtain ⟨ρ, P, c0, c1, n0, P0, n1, P1, -, -, g, -⟩ := h
  exact g.1
theorem RY_e (h : RY S0 ρ0 dp x ks A yn F G m nd qs T l) (e : l = l') : RY S0 ρ0 dp x ks A yn F G m nd qs T l' := e ▸ h
theorem pdL_nil {P : Nat → Nat} : pdL P [] := fun k q h => absurd (get_lt h) (Nat.not_lt_zero k)
theorem pdL_at {P : Nat → Nat} (h : pdL P l) : ∀ k, k < l.length → P k = (fun k => l.getD k 0) k := fun k hk => by
  have e := List.getElem?_eq_getElem (l := l) (i := k) hk
  rw [h k _ e]
  show _ = l.getD k 0
  rw [List.getD_eq_getElem?_getD, e]
  rfl
theorem RY_type {Q : Int32 → cS → Prop} {y : Nat} (h : RY S0 ρ0 dp x ks A yn F G m nd qs T l) (hy : 32 ≤ y ∧ y ≤ 126) (hl : l.length < 40) (hk : ∀ U, RY S0 ρ0 dp x ks A yn F G m nd qs U (l ++ [y]) → Q (nI (l.length + 1)) U) : k_X11_type Q dp x (nI y) T := by
  obtain ⟨ρ, P, c0, c1, n0, P0, n1, P1, a, hp, g, gp, gq⟩ := h
  refine g_type g hy hl (fun U fU gU => hk U ⟨ρ, upR P l.length y, c0, c1, n0, P0, n1, P1, RE_s a g.1 fU (by decide) (by decide), fun k q hq => ?_, by rw [List.length_append]; exact gU, ?_, ?_⟩)
  · rcases Nat.lt_or_ge k l.length with c | c
    · rw [List.getElem?_append_left c] at hq
      rw [upR_n (by omega)]
      exact hp k q hq
    · have := get_lt hq
      rw [List.length_append] at this
      obtain rfl : k = l.length := by have : k < l.length + 1 := this; omega
      rw [List.getElem?_concat_length] at hq
      cases hq
      exact upR_s
  · exact gPr_f fU (by decide) (by decide) (by decide) (fr_cr fU g.1 (by rw [g.2.1]; decide)) gp
  · exact gQl_f fU (by decide) (by decide) (by decide) (fr_cr fU g.1 (by rw [g.2.1]; decide)) gq
theorem RY_s {Q : Int32 → cS → Prop} {y N : Nat} (h : RY S0 ρ0 dp x ks A yn F G m nd qs T l) (hy : 32 ≤ y ∧ y ≤ 126) (hl : N + 8 ≤ 40 ∧ l.length < N + 8) (hk : ∀ U, RY S0 ρ0 dp x ks A yn F G m nd qs U (l ++ [y]) → Q (nI (l.length + 1)) U) : k_X11_type Q dp x (nI y) T := RY_type h hy (by omega) hk
theorem q_ry1 {Q : cS → Prop} (h0 : RY S0 ρ0 dp x ks A yn F G m nd qs T l) (hl : l.length + 8 ≤ 40) (h : ∀ U, RY S0 ρ0 dp x ks A yn F G m nd qs U (l ++ sgW 1) → Q U) : k_L_types Q dp x (nI 1) T := by
  unfold k_L_types
  refine ⟨fun _ => ?_, fun c => absurd rfl c⟩
  unfold k_L_types_10
  refine ⟨fun c => absurd rfl c, fun _ => ?_⟩
  unfold k_L_types_23
  refine ⟨RY_x h0, RY_s h0 (by decide) ⟨hl, by simp⟩ (fun T0 h1 => ?_)⟩
  refine ⟨RY_x h1, RY_s h1 (by decide) ⟨hl, by simp⟩ (fun T1 h2 => ?_)⟩
  refine ⟨RY_x h2, RY_s h2 (by decide) ⟨hl, by simp⟩ (fun T2 h3 => ?_)⟩
  unfold k_L_types_41
  refine ⟨fun _ => ?_, fun c => absurd c (by decide)⟩
  unfold k_L_types_53
  refine ⟨fun _ => ?_, fun c => absurd c (by decide)⟩
  unfold k_L_types_86
  refine ⟨fun _ => ?_, fun c => absurd c (by decide)⟩
  unfold k_L_types_112
  refine ⟨fun _ => ?_, fun c => absurd c (by decide)⟩
  unfold k_L_types_124
  refine ⟨fun c => absurd c (by decide), fun _ => ?_⟩
  refine ⟨fun _ => ?_, fun c => absurd c (by decide)⟩
  unfold k_L_types_155
  refine ⟨fun _ => ?_, fun c => absurd c (by decide)⟩
  unfold k_L_types_189
  refine ⟨fun _ => ?_, fun c => absurd c (by decide)⟩
  unfold k_L_types_216
  refine ⟨fun _ => ?_, fun c => absurd c (by decide)⟩
  unfold k_L_types_229
  refine ⟨RY_x h3, RY_s h3 (by decide) ⟨hl, by simp⟩ (fun T3 h4 => ?_)⟩
  exact h _ (RY_e h4 (by simp [sgW, ltW]))
theorem q_ry2 {Q : cS → Prop} (h0 : RY S0 ρ0 dp x ks A yn F G m nd qs T l) (hl : l.length + 8 ≤ 40) (h : ∀ U, RY S0 ρ0 dp x ks A yn F G m nd qs U (l ++ sgW 2) → Q U) : k_L_types Q dp x (nI 2) T := by
  unfold k_L_types
  refine ⟨fun c => absurd c (by decide), fun _ => ?_⟩
  refine ⟨fun c => absurd rfl c, fun _ => ?_⟩
  unfold k_L_types_10
  refine ⟨fun _ => ?_, fun c => absurd c (by decide)⟩
  unfold k_L_types_23
  refine ⟨RY_x h0, RY_s h0 (by decide) ⟨hl, by simp⟩ (fun T0 h1 => ?_)⟩
  refine ⟨RY_x h1, RY_s h1 (by decide) ⟨hl, by simp⟩ (fun T1 h2 => ?_)⟩
  refine ⟨RY_x h2, RY_s h2 (by decide) ⟨hl, by simp⟩ (fun T2 h3 => ?_)⟩
  unfold k_L_types_41
  refine ⟨fun c => absurd rfl c, fun _ => ?_⟩
  refine ⟨RY_x h3, RY_s h3 (by decide) ⟨hl, by simp⟩ (fun T3 h4 => ?_)⟩
  unfold k_L_types_53
  refine ⟨fun _ => ?_, fun c => absurd c (by decide)⟩
  unfold k_L_types_86
  refine ⟨fun _ => ?_, fun c => absurd c (by decide)⟩
  unfold k_L_types_112
  refine ⟨fun _ => ?_, fun c => absurd c (by decide)⟩
  unfold k_L_types_124
  refine ⟨fun c => absurd c (by decide), fun _ => ?_⟩
  refine ⟨fun _ => ?_, fun c => absurd c (by decide)⟩
  unfold k_L_types_155
  refine ⟨fun _ => ?_, fun c => absurd c (by decide)⟩
  unfold k_L_types_189
  refine ⟨fun _ => ?_, fun c => absurd c (by decide)⟩
  unfold k_L_types_216
  refine ⟨fun _ => ?_, fun c => absurd c (by decide)⟩
  unfold k_L_types_229
  refine ⟨RY_x h4, RY_s h4 (by decide) ⟨hl, by simp⟩ (fun T4 h5 => ?_)⟩
  exact h _ (RY_e h5 (by simp [sgW, ltW]))
theorem q_ry3 {Q : cS → Prop} (h0 : RY S0 ρ0 dp x ks A yn F G m nd qs T l) (hl : l.length + 8 ≤ 40) (h : ∀ U, RY S0 ρ0 dp x ks A yn F G m nd qs U (l ++ sgW 3) → Q U) : k_L_types Q dp x (nI 3) T := by
  unfold k_L_types
  refine ⟨fun c => absurd c (by decide), fun _ => ?_⟩
  refine ⟨fun _ => ?_, fun c => absurd c (by decide)⟩
  unfold k_L_types_41
  refine ⟨fun _ => ?_, fun c => absurd c (by decide)⟩
  unfold k_L_types_53
  refine ⟨fun c => absurd rfl c, fun _ => ?_⟩
  refine ⟨RY_x h0, RY_s h0 (by decide) ⟨hl, by simp⟩ (fun T0 h1 => ?_)⟩
  refine ⟨RY_x h1, RY_s h1 (by decide) ⟨hl, by simp⟩ (fun T1 h2 => ?_)⟩
  refine ⟨RY_x h2, RY_s h2 (by decide) ⟨hl, by simp⟩ (fun T2 h3 => ?_)⟩
  refine ⟨RY_x h3, RY_s h3 (by decide) ⟨hl, by simp⟩ (fun T3 h4 => ?_)⟩
  unfold k_L_types_86
  refine ⟨fun _ => ?_, fun c => absurd c (by decide)⟩
  unfold k_L_types_112
  refine ⟨fun _ => ?_, fun c => absurd c (by decide)⟩
  unfold k_L_types_124
  refine ⟨fun _ => ?_, fun c => absurd rfl c⟩
  unfold k_L_types_134
  refine ⟨RY_x h4, RY_s h4 (by decide) ⟨hl, by simp⟩ (fun T4 h5 => ?_)⟩
  refine ⟨RY_x h5, RY_s h5 (by decide) ⟨hl, by simp⟩ (fun T5 h6 => ?_)⟩
  refine ⟨RY_x h6, RY_s h6 (by decide) ⟨hl, by simp⟩ (fun T6 h7 => ?_)⟩
  unfold k_L_types_155
  refine ⟨fun _ => ?_, fun c => absurd c (by decide)⟩
  unfold k_L_types_189
  refine ⟨fun _ => ?_, fun c => absurd c (by decide)⟩
  unfold k_L_types_216
  refine ⟨fun _ => ?_, fun c => absurd c (by decide)⟩
  unfold k_L_types_229
  refine ⟨RY_x h7, RY_s h7 (by decide) ⟨hl, by simp⟩ (fun T7 h8 => ?_)⟩
  exact h _ (RY_e h8 (by simp [sgW, ltW]))
theorem q_ry4 {Q : cS → Prop} (h0 : RY S0 ρ0 dp x ks A yn F G m nd qs T l) (hl : l.length + 8 ≤ 40) (h : ∀ U, RY S0 ρ0 dp x ks A yn F G m nd qs U (l ++ sgW 4) → Q U) : k_L_types Q dp x (nI 4) T := by
  unfold k_L_types
  refine ⟨fun c => absurd c (by decide), fun _ => ?_⟩
  refine ⟨fun _ => ?_, fun c => absurd c (by decide)⟩
  unfold k_L_types_41
  refine ⟨fun _ => ?_, fun c => absurd c (by decide)⟩
  unfold k_L_types_53
  refine ⟨fun _ => ?_, fun c => absurd c (by decide)⟩
  unfold k_L_types_86
  refine ⟨fun c => absurd rfl c, fun _ => ?_⟩
  refine ⟨RY_x h0, RY_s h0 (by decide) ⟨hl, by simp⟩ (fun T0 h1 => ?_)⟩
  refine ⟨RY_x h1, RY_s h1 (by decide) ⟨hl, by simp⟩ (fun T1 h2 => ?_)⟩
  refine ⟨RY_x h2, RY_s h2 (by decide) ⟨hl, by simp⟩ (fun T2 h3 => ?_)⟩
  unfold k_L_types_112
  refine ⟨fun _ => ?_, fun c => absurd c (by decide)⟩
  unfold k_L_types_124
  refine ⟨fun c => absurd c (by decide), fun _ => ?_⟩
  refine ⟨fun _ => ?_, fun c => absurd c (by decide)⟩
  unfold k_L_types_155
  refine ⟨fun _ => ?_, fun c => absurd c (by decide)⟩
  unfold k_L_types_189
  refine ⟨fun _ => ?_, fun c => absurd c (by decide)⟩
  unfold k_L_types_216
  refine ⟨fun c => absurd rfl c, fun _ => ?_⟩
  unfold k_L_types_229
  refine ⟨RY_x h3, RY_s h3 (by decide) ⟨hl, by simp⟩ (fun T3 h4 => ?_)⟩
  exact h _ (RY_e h4 (by simp [sgW, ltW]))
theorem q_ry5 {Q : cS → Prop} (h0 : RY S0 ρ0 dp x ks A yn F G m nd qs T l) (hl : l.length + 8 ≤ 40) (h : ∀ U, RY S0 ρ0 dp x ks A yn F G m nd qs U (l ++ sgW 5) → Q U) : k_L_types Q dp x (nI 5) T := by
  unfold k_L_types
  refine ⟨fun c => absurd c (by decide), fun _ => ?_⟩
  refine ⟨fun _ => ?_, fun c => absurd c (by decide)⟩
  unfold k_L_types_41
  refine ⟨fun _ => ?_, fun c => absurd c (by decide)⟩
  unfold k_L_types_53
  refine ⟨fun _ => ?_, fun c => absurd c (by decide)⟩
  unfold k_L_types_86
  refine ⟨fun _ => ?_, fun c => absurd c (by decide)⟩
  unfold k_L_types_112
  refine ⟨fun c => absurd rfl c, fun _ => ?_⟩
  refine ⟨RY_x h0, RY_s h0 (by decide) ⟨hl, by simp⟩ (fun T0 h1 => ?_)⟩
  unfold k_L_types_124
  refine ⟨fun c => absurd c (by decide), fun _ => ?_⟩
  refine ⟨fun c => absurd rfl c, fun _ => ?_⟩
  unfold k_L_types_134
  refine ⟨RY_x h1, RY_s h1 (by decide) ⟨hl, by simp⟩ (fun T1 h2 => ?_)⟩
  refine ⟨RY_x h2, RY_s h2 (by decide) ⟨hl, by simp⟩ (fun T2 h3 => ?_)⟩
  refine ⟨RY_x h3, RY_s h3 (by decide) ⟨hl, by simp⟩ (fun T3 h4 => ?_)⟩
  unfold k_L_types_155
  refine ⟨fun _ => ?_, fun c => absurd c (by decide)⟩
  unfold k_L_types_189
  refine ⟨fun _ => ?_, fun c => absurd c (by decide)⟩
  unfold k_L_types_216
  refine ⟨fun _ => ?_, fun c => absurd c (by decide)⟩
  unfold k_L_types_229
  refine ⟨RY_x h4, RY_s h4 (by decide) ⟨hl, by simp⟩ (fun T4 h5 => ?_)⟩
  exact h _ (RY_e h5 (by simp [sgW, ltW]))
theorem q_ry6 {Q : cS → Prop} (h0 : RY S0 ρ0 dp x ks A yn F G m nd qs T l) (hl : l.length + 8 ≤ 40) (h : ∀ U, RY S0 ρ0 dp x ks A yn F G m nd qs U (l ++ sgW 6) → Q U) : k_L_types Q dp x (nI 6) T := by
  unfold k_L_types
  refine ⟨fun c => absurd c (by decide), fun _ => ?_⟩
  refine ⟨fun _ => ?_, fun c => absurd c (by decide)⟩
  unfold k_L_types_41
  refine ⟨fun _ => ?_, fun c => absurd c (by decide)⟩
  unfold k_L_types_53
  refine ⟨fun _ => ?_, fun c => absurd c (by decide)⟩
  unfold k_L_types_86
  refine ⟨fun _ => ?_, fun c => absurd c (by decide)⟩
  unfold k_L_types_112
  refine ⟨fun _ => ?_, fun c => absurd c (by decide)⟩
  unfold k_L_types_124
  refine ⟨fun c => absurd c (by decide), fun _ => ?_⟩
  refine ⟨fun _ => ?_, fun c => absurd c (by decide)⟩
  unfold k_L_types_155
  refine ⟨fun c => absurd rfl c, fun _ => ?_⟩
  refine ⟨RY_x h0, RY_s h0 (by decide) ⟨hl, by simp⟩ (fun T0 h1 => ?_)⟩
  refine ⟨RY_x h1, RY_s h1 (by decide) ⟨hl, by simp⟩ (fun T1 h2 => ?_)⟩
  refine ⟨RY_x h2, RY_s h2 (by decide) ⟨hl, by simp⟩ (fun T2 h3 => ?_)⟩
  refine ⟨RY_x h3, RY_s h3 (by decide) ⟨hl, by simp⟩ (fun T3 h4 => ?_)⟩
  unfold k_L_types_189
  refine ⟨fun _ => ?_, fun c => absurd c (by decide)⟩
  unfold k_L_types_216
  refine ⟨fun _ => ?_, fun c => absurd c (by decide)⟩
  unfold k_L_types_229
  refine ⟨RY_x h4, RY_s h4 (by decide) ⟨hl, by simp⟩ (fun T4 h5 => ?_)⟩
  exact h _ (RY_e h5 (by simp [sgW, ltW]))
theorem q_ry7 {Q : cS → Prop} (h0 : RY S0 ρ0 dp x ks A yn F G m nd qs T l) (hl : l.length + 8 ≤ 40) (h : ∀ U, RY S0 ρ0 dp x ks A yn F G m nd qs U (l ++ sgW 7) → Q U) : k_L_types Q dp x (nI 7) T := by
  unfold k_L_types
  refine ⟨fun c => absurd c (by decide), fun _ => ?_⟩
  refine ⟨fun _ => ?_, fun c => absurd c (by decide)⟩
  unfold k_L_types_41
  refine ⟨fun _ => ?_, fun c => absurd c (by decide)⟩
  unfold k_L_types_53
  refine ⟨fun _ => ?_, fun c => absurd c (by decide)⟩
  unfold k_L_types_86
  refine ⟨fun _ => ?_, fun c => absurd c (by decide)⟩
  unfold k_L_types_112
  refine ⟨fun _ => ?_, fun c => absurd c (by decide)⟩
  unfold k_L_types_124
  refine ⟨fun c => absurd c (by decide), fun _ => ?_⟩
  refine ⟨fun _ => ?_, fun c => absurd c (by decide)⟩
  unfold k_L_types_155
  refine ⟨fun _ => ?_, fun c => absurd c (by decide)⟩
  unfold k_L_types_189
  refine ⟨fun c => absurd rfl c, fun _ => ?_⟩
  refine ⟨RY_x h0, RY_s h0 (by decide) ⟨hl, by simp⟩ (fun T0 h1 => ?_)⟩
  refine ⟨RY_x h1, RY_s h1 (by decide) ⟨hl, by simp⟩ (fun T1 h2 => ?_)⟩
  refine ⟨RY_x h2, RY_s h2 (by decide) ⟨hl, by simp⟩ (fun T2 h3 => ?_)⟩
  unfold k_L_types_216
  refine ⟨fun _ => ?_, fun c => absurd c (by decide)⟩
  unfold k_L_types_229
  refine ⟨RY_x h3, RY_s h3 (by decide) ⟨hl, by simp⟩ (fun T3 h4 => ?_)⟩
  exact h _ (RY_e h4 (by simp [sgW, ltW]))
theorem q_R_types {Q : cS → Prop} {w : Nat} (hw : 1 ≤ w ∧ w ≤ 7) (h0 : RY S0 ρ0 dp x ks A yn F G m nd qs T l) (hl : l.length + 8 ≤ 40) (h : ∀ U, RY S0 ρ0 dp x ks A yn F G m nd qs U (l ++ sgW w) → Q U) : k_L_types Q dp x (nI w) T := by
  have : w = 1 ∨ w = 2 ∨ w = 3 ∨ w = 4 ∨ w = 5 ∨ w = 6 ∨ w = 7 := by omega
  rcases this with rfl | rfl | rfl | rfl | rfl | rfl | rfl
  · exact q_ry1 h0 hl h
  · exact q_ry2 h0 hl h
  · exact q_ry3 h0 hl h
  · exact q_ry4 h0 hl h
  · exact q_ry5 h0 hl h
  · exact q_ry6 h0 hl h
  · exact q_ry7 h0 hl h
/-- tokens without synonyms -/
def tk1 (w k : Nat) : List (Int64 × Nat) := match tkI w with
  | none => []
  | some t => [(tcN t, k)]
theorem tk_w0 {w k : Nat} (hw : 1 ≤ w ∧ w ≤ 7) : (if stp6 (lN (stW (wdc (ltW w) 0))) = true then [] else [(lN (stW (wdc (ltW w) 0)), k)]) = tk1 w k := by
  have : w = 1 ∨ w = 2 ∨ w = 3 ∨ w = 4 ∨ w = 5 ∨ w = 6 ∨ w = 7 := by omega
  have one : ∀ t, stp6 (tcN t) = false → (if stp6 (tcN t) = true then [] else [(tcN t, k)]) = [(tcN t, k)] := fun t h => by rw [h]; rfl
  rcases this with rfl | rfl | rfl | rfl | rfl | rfl | rfl
  · rw [st_1]; exact one 0 tk_0.1
  · rw [st_2]; exact one 0 tk_0.1
  · rw [st_3]; exact one 1 tk_1.1
  · rw [st_4]; exact one 2 tk_2.1
  · rw [st_5]; exact one 3 tk_3.1
  · rw [st_6]; exact one 4 tk_4.1
  · rw [st_7, tk_7, if_pos rfl]; rfl
theorem tkL_w0 {ws : List Nat} {W : Nat → Nat} (hw : ∀ i w, ws[i]? = some w → (1 ≤ w ∧ w ≤ 7) ∧ W i = wdc (ltW w) 0) : ∀ m, m ≤ ws.length → tkL F G 0 stp6 (fun k => lN (stW (W k))) m = (List.range m).flatMap (fun k => tk1 (ws.getD k 0) k)
  | 0, _ => rfl
  | m + 1, h => by
    have e := List.getElem?_eq_getElem (l := ws) (i := m) (by omega)
    obtain ⟨h1, h2⟩ := hw m _ e
    rw [List.range_succ, List.flatMap_append, List.flatMap_singleton, ← tkL_w0 hw m (by omega), tkP_s]
    rw [h2, tk_w0 h1, List.getD_eq_getElem?_getD, e]
    rfl
theorem tk0_w {P : Nat → Nat} (h : WSo l ws) (hp : pdL P l) : tk0 1 A6 F G P l.length = (List.range ws.length).flatMap (fun k => tk1 (ws.getD k 0) k) := by
  obtain ⟨⟨h1, h2⟩, h3⟩ := h
  obtain ⟨W, e, hW⟩ := h3 P hp
  unfold tk0 wdC wdW
  rw [e]
  exact tkL_w0 (fun i v hi => ⟨h2 v (List.mem_of_getElem? hi), hW i v hi⟩) ws.length (Nat.le_refl _)
theorem RY_stop {Q : Int32 → cS → Prop} {mc ms : Nat} (h : RY S0 ρ0 dp x 0 (fun _ => 0) yn F G m nd qs T ([] ++ sgW 7)) (hm : 4 ≤ mc) (hs : 45 ≤ ms) (hk : ∀ U, RY S0 ρ0 dp x 1 A6 yn F G m nd qs U [] → Q (nI 1) U) : k_X11_stop Q dp mc ms x T := by
  obtain ⟨ρ, P, c0, c1, n0, P0, n1, P1, a, hp, g, gp, gq⟩ := h
  obtain ⟨W, e, hW⟩ := (WSo_s (w := 7) WSo_0 (by decide)).2 P hp
  have w1 : wdC P ([] ++ sgW 7).length = 1 := by unfold wdC; rw [e]; rfl
  have w2 : lN (stW (wdW P ([] ++ sgW 7).length 0)) = lN (wdc [116, 104, 101] 0) := by
    unfold wdW
    rw [e]
    show lN (stW (W 0)) = _
    rw [hW 0 7 rfl, st_7]
  refine g_stop (P' := P) g w1 (by decide) rfl hm hs (fun U ρ' fU gU => ?_)
  rw [w2] at gU
  refine hk U ⟨ρ', P, c0, c1, n0, P0, n1, P1, RE_s a g.1 fU (by decide) (by decide), pdL_nil, gU, ?_, ?_⟩
  · exact gPr_f fU (by decide) (by decide) (by decide) (fr_cr fU g.1 (by rw [g.2.1]; decide)) gp
  · exact gQl_f fU (by decide) (by decide) (by decide) (fr_cr fU g.1 (by rw [g.2.1]; decide)) gq
theorem RY_syn {Q : Int32 → cS → Prop} {mc ms : Nat} (h : RY S0 ρ0 dp x ks A 0 (fun _ => 0) (fun _ => 0) m nd qs T (([] ++ sgW 2) ++ sgW 4)) (hm : 4 ≤ mc) (hs : 45 ≤ ms) (hk : ∀ U, RY S0 ρ0 dp x ks A 1 F6 G6 m nd qs U [] → Q (nI 1) U) : k_X11_synonym Q dp mc ms x T := by
  obtain ⟨ρ, P, c0, c1, n0, P0, n1, P1, a, hp, g, gp, gq⟩ := h
  obtain ⟨W, e, hW⟩ := (WSo_s (w := 4) (WSo_s (w := 2) WSo_0 (by decide)) (by decide)).2 P hp
  have w1 : wdC P (([] ++ sgW 2) ++ sgW 4).length = 2 := by unfold wdC; rw [e]; rfl
  have w2 : lN (stW (wdW P (([] ++ sgW 2) ++ sgW 4).length 0)) = tcN 0 := by
    unfold wdW
    rw [e]
    show lN (stW (W 0)) = _
    rw [hW 0 2 rfl, st_2]
    rfl
  have w3 : lN (stW (wdW P (([] ++ sgW 2) ++ sgW 4).length 1)) = tcN 2 := by
    unfold wdW
    rw [e]
    show lN (stW (W 1)) = _
    rw [hW 1 4 rfl, st_4]
    rfl
  refine g_synonym (P' := P) g w1 (by decide) rfl hm hs (fun U ρ' fU gU => ?_)
  rw [w2, w3] at gU
  refine hk U ⟨ρ', P, c0, c1, n0, P0, n1, P1, RE_s a g.1 fU (by decide) (by decide), pdL_nil, gU, ?_, ?_⟩
  · exact gPr_f fU (by decide) (by decide) (by decide) (fr_cr fU g.1 (by rw [g.2.1]; decide)) gp
  · exact gQl_f fU (by decide) (by decide) (by decide) (fr_cr fU g.1 (by rw [g.2.1]; decide)) gq
theorem allB_ext {f g : Nat → Bool} : ∀ {n : Nat}, (∀ k, k < n → f k = g k) → allB f n = allB g n
  | 0, _ => rfl
  | n + 1, h => by
    show (allB f n && f n) = (allB g n && g n)
    rw [allB_ext (fun k hk => h k (Nat.lt_succ_of_lt hk)), h n (Nat.lt_succ_self n)]
theorem RY_term {Q : Int32 → cS → Prop} {f mc ms r : Nat} {tk : List (Int64 × Nat)} (h : RY S0 ρ0 dp x 1 A6 1 F6 G6 m nd qs T l) (hf : f < 2) (hl : l.length ≤ 40) (hw : WSo l ws) (ht : (List.range ws.length).flatMap (fun k => tk1 (ws.getD k 0) k) = tk) (hk1 : tk.length = 1) (h1 : (qsS nd m).1 < 8) (h2 : (lfI nd m).length < 24) (hm47 : m ≤ 47) (hm : 240 ≤ mc) (hs : 2200 ≤ ms) (hr : (qsS nd m).1 + 1 = r) (hk : ∀ U, RY S0 ρ0 dp x 1 A6 1 F6 G6 (m + 1) (upR nd m ((0, f, 0, 0), false, tk, [], 0)) qs U [] → Q (nI r) U) : k_X11_term Q dp mc ms x (nI f) T := by
  obtain ⟨ρ, P, c0, c1, n0, P0, n1, P1, a, hp, g, gp, gq⟩ := h
  have e := (tk0_w (F := F6) (G := G6) hw hp).trans ht
  refine g_term (P' := P) g gp hf (by rw [e]; exact hk1) h1 h2 hm47 hl dp_O hm hs (fun U ρ' fU gU gPU cU => ?_)
  rw [e] at gPU
  rw [hr]
  refine hk U ⟨ρ', P, c0, c1, n0, P0, n1, P1, RE_s a g.1 fU (by decide) (by decide), pdL_nil, gU, ?_, ?_⟩
  · exact gPU
  · exact gQl_f fU (by decide) (by decide) (by decide) (cU _) gq
theorem RY_phrase {Q : Int32 → cS → Prop} {f mc ms r : Nat} {tk : List (Int64 × Nat)} {sl : Nat} (h : RY S0 ρ0 dp x 1 A6 1 F6 G6 m nd qs T l) (hf : f < 2) (hl : l.length ≤ 40) (hw : WSo l ws) (ht : (List.range ws.length).flatMap (fun k => tk1 (ws.getD k 0) k) = tk) (hk1 : 1 ≤ tk.length ∧ tk.length ≤ 6) (hsl : sl ≤ 20) (h1 : (qsS nd m).1 < 8) (h2 : (lfI nd m).length < 24) (hm47 : m ≤ 47) (hm : 240 ≤ mc) (hs : 2200 ≤ ms) (hr : (qsS nd m).1 + 1 = r) (hk : ∀ U, RY S0 ρ0 dp x 1 A6 1 F6 G6 (m + 1) (upR nd m ((1, f, sl, 0), false, tk, [], 0)) qs U [] → Q (nI r) U) : k_X11_phrase Q dp mc ms x (nI f) (nI sl) T := by
  obtain ⟨ρ, P, c0, c1, n0, P0, n1, P1, a, hp, g, gp, gq⟩ := h
  have e := (tk0_w (F := F6) (G := G6) hw hp).trans ht
  refine g_phrase (P' := P) g gp hf hsl (by rw [e]; exact hk1) h1 h2 hm47 hl dp_O hm hs (fun U ρ' fU gU gPU cU => ?_)
  rw [e] at gPU
  rw [hr]
  refine hk U ⟨ρ', P, c0, c1, n0, P0, n1, P1, RE_s a g.1 fU (by decide) (by decide), pdL_nil, gU, ?_, ?_⟩
  · exact gPU
  · exact gQl_f fU (by decide) (by decide) (by decide) (cU _) gq
theorem RY_near {Q : Int32 → cS → Prop} {f mc ms r : Nat} {tk : List (Int64 × Nat)} {sl : Nat} {b : Bool} (h : RY S0 ρ0 dp x 1 A6 1 F6 G6 m nd qs T l) (hf : f < 2) (hl : l.length ≤ 40) (hw : WSo l ws) (ht : (List.range ws.length).flatMap (fun k => tk1 (ws.getD k 0) k) = tk) (hk1 : tk.length = 2) (hsl : 1 ≤ sl ∧ sl ≤ 20) (h1 : (qsS nd m).1 < 8) (h2 : (lfI nd m).length < 24) (hm47 : m ≤ 47) (hm : 240 ≤ mc) (hs : 2200 ≤ ms) (hr : (qsS nd m).1 + 1 = r) (hk : ∀ U, RY S0 ρ0 dp x 1 A6 1 F6 G6 (m + 1) (upR nd m ((2, f, sl, 0), b, tk, [], 0)) qs U [] → Q (nI r) U) : k_X11_near Q dp mc ms x (nI f) (nI sl) (bI b) T := by
  obtain ⟨ρ, P, c0, c1, n0, P0, n1, P1, a, hp, g, gp, gq⟩ := h
  have e := (tk0_w (F := F6) (G := G6) hw hp).trans ht
  refine g_near (P' := P) g gp hf hsl (by rw [e]; exact hk1) h1 h2 hm47 hl dp_O hm hs (fun U ρ' fU gU gPU cU => ?_)
  rw [e] at gPU
  rw [hr]
  refine hk U ⟨ρ', P, c0, c1, n0, P0, n1, P1, RE_s a g.1 fU (by decide) (by decide), pdL_nil, gU, ?_, ?_⟩
  · exact gPU
  · exact gQl_f fU (by decide) (by decide) (by decide) (cU _) gq
theorem RY_prefix {Q : Int32 → cS → Prop} {f mc ms r : Nat} {w : Nat} (h : RY S0 ρ0 dp x 1 A6 1 F6 G6 m nd qs T l) (hf : f < 2) (hw1 : (rdS (fun k => l.getD k 0) l.length).2.1 = 1) (hw2 : (rdS (fun k => l.getD k 0) l.length).2.2 0 = w) (h1 : (qsS nd m).1 < 8) (h2 : (lfI nd m).length < 24) (hm47 : m ≤ 47) (hm : 240 ≤ mc) (hs : 2200 ≤ ms) (hr : (qsS nd m).1 + 1 = r) (hk : ∀ U, RY S0 ρ0 dp x 1 A6 1 F6 G6 (m + 1) (upR nd m ((3, f, 0, 0), false, [], [], w)) qs U [] → Q (nI r) U) : k_X11_prefix Q dp mc ms x (nI f) T := by
  obtain ⟨ρ, P, c0, c1, n0, P0, n1, P1, a, hp, g, gp, gq⟩ := h
  have e := rdS_ext (P := P) (P' := fun k => l.getD k 0) (n := l.length) (pdL_at hp)
  have e1 : wdC P l.length = 1 := by
    unfold wdC
    rw [e]
    exact hw1
  have e2 : wdW P l.length 0 = w := by
    unfold wdW
    rw [e]
    exact hw2
  refine g_prefix (P' := P) g gp hf e1 h1 h2 hm47 dp_O hm hs (fun U ρ' fU gU gPU cU => ?_)
  rw [e2] at gPU
  rw [hr]
  refine hk U ⟨ρ', P, c0, c1, n0, P0, n1, P1, RE_s a g.1 fU (by decide) (by decide), pdL_nil, gU, ?_, ?_⟩
  · exact gPU
  · exact gQl_f fU (by decide) (by decide) (by decide) (cU _) gq
theorem RY_fuzzy {Q : Int32 → cS → Prop} {f mc ms r : Nat} {w sl : Nat} (h : RY S0 ρ0 dp x 1 A6 1 F6 G6 m nd qs T l) (hf : f < 2) (hw1 : (rdS (fun k => l.getD k 0) l.length).2.1 = 1) (hw2 : (rdS (fun k => l.getD k 0) l.length).2.2 0 = w) (hsl : sl ≤ 2) (h1 : (qsS nd m).1 < 8) (h2 : (lfI nd m).length < 24) (hm47 : m ≤ 47) (hm : 240 ≤ mc) (hs : 2200 ≤ ms) (hr : (qsS nd m).1 + 1 = r) (hk : ∀ U, RY S0 ρ0 dp x 1 A6 1 F6 G6 (m + 1) (upR nd m ((5, f, sl, 0), false, [], [], w)) qs U [] → Q (nI r) U) : k_X11_fuzzy Q dp mc ms x (nI f) (nI sl) T := by
  obtain ⟨ρ, P, c0, c1, n0, P0, n1, P1, a, hp, g, gp, gq⟩ := h
  have e := rdS_ext (P := P) (P' := fun k => l.getD k 0) (n := l.length) (pdL_at hp)
  have e1 : wdC P l.length = 1 := by
    unfold wdC
    rw [e]
    exact hw1
  have e2 : wdW P l.length 0 = w := by
    unfold wdW
    rw [e]
    exact hw2
  refine g_fuzzy (P' := P) g gp hf hsl e1 h1 h2 hm47 dp_O hm hs (fun U ρ' fU gU gPU cU => ?_)
  rw [e2] at gPU
  rw [hr]
  refine hk U ⟨ρ', P, c0, c1, n0, P0, n1, P1, RE_s a g.1 fU (by decide) (by decide), pdL_nil, gU, ?_, ?_⟩
  · exact gPU
  · exact gQl_f fU (by decide) (by decide) (by decide) (cU _) gq
theorem RY_wild {Q : Int32 → cS → Prop} {f mc ms r : Nat} {pt : List Nat} (h : RY S0 ρ0 dp x 1 A6 1 F6 G6 m nd qs T l) (hf : f < 2) (hn : 1 ≤ l.length ∧ l.length ≤ 12) (hp0 : allB (fun k => decide (0 < pfN (l.getD k 0))) l.length = true) (hpt : (List.range l.length).map (fun k => pfN (l.getD k 0)) = pt) (h1 : (qsS nd m).1 < 8) (h2 : (lfI nd m).length < 24) (hm47 : m ≤ 47) (hm : 240 ≤ mc) (hs : 2200 ≤ ms) (hr : (qsS nd m).1 + 1 = r) (hk : ∀ U, RY S0 ρ0 dp x 1 A6 1 F6 G6 (m + 1) (upR nd m ((4, f, 0, 0), false, [], pt, 0)) qs U [] → Q (nI r) U) : k_X11_wild Q dp mc ms x (nI f) T := by
  obtain ⟨ρ, P, c0, c1, n0, P0, n1, P1, a, hp, g, gp, gq⟩ := h
  have e := pdL_at hp
  have e1 : allB (fun k => decide (0 < pfN (P k))) l.length = true := (allB_ext (fun k hk => by rw [e k hk])).trans hp0
  have e2 : (List.range l.length).map (fun k => pfN (P k)) = pt := (List.map_congr_left (fun k hk => by rw [e k (List.mem_range.mp hk)])).trans hpt
  refine g_wild (P' := P) g gp hf hn e1 h1 h2 hm47 dp_O hm hs (fun U ρ' fU gU gPU cU => ?_)
  rw [e2] at gPU
  rw [hr]
  refine hk U ⟨ρ', P, c0, c1, n0, P0, n1, P1, RE_s a g.1 fU (by decide) (by decide), pdL_nil, gU, ?_, ?_⟩
  · exact gPU
  · exact gQl_f fU (by decide) (by decide) (by decide) (cU _) gq
theorem RY_least {Q : Int32 → cS → Prop} {k j mc ms r : Nat} (h : RY S0 ρ0 dp x ks A yn F G m nd qs T []) (hk0 : 2 ≤ k ∧ k ≤ 8) (hl : 1 ≤ j ∧ j ≤ k) (hp0 : k ≤ (qsS nd m).1) (h8 : (qsS nd m).1 ≤ 8) (hm47 : m ≤ 47) (hm : 10 ≤ mc) (hs : 200 ≤ ms) (hr : (qsS nd m).1 - (k - 1) = r) (hk : ∀ U, RY S0 ρ0 dp x ks A yn F G (m + 1) (upR nd m ((6, 0, j, k), false, [], [], 0)) qs U [] → Q (nI r) U) : k_X11_least Q dp mc ms x (nI k) (nI j) T := by
  obtain ⟨ρ, P, c0, c1, n0, P0, n1, P1, a, hp, g, gp, gq⟩ := h
  refine g_least g.1 g.2.1 gp hk0 hl hp0 h8 hm47 dp_O hm hs (fun U ρ' fU tU cU gPU => ?_)
  rw [hr]
  exact hk U ⟨ρ', P, c0, c1, n0, P0, n1, P1, RE_s a g.1 fU (by decide) (by decide), pdL_nil, gLD_f fU (by decide) ((tU x g.1.1).trans g.2.1) (fun q _ => cU q) g, gPU, gQl_f fU (by decide) (by decide) (by decide) (cU _) gq⟩
theorem RY_but {Q : Int32 → cS → Prop} {mc ms r : Nat} (h : RY S0 ρ0 dp x ks A yn F G m nd qs T []) (hp0 : 2 ≤ (qsS nd m).1) (h8 : (qsS nd m).1 ≤ 8) (hst : (qsS nd m).2.1 ((qsS nd m).1 - 1) ≤ m) (hm47 : m ≤ 47) (hm : 10 ≤ mc) (hs : 200 ≤ ms) (hr : (qsS nd m).1 - 1 = r) (hk : ∀ U, RY S0 ρ0 dp x ks A yn F G (m + 1) (upR nd m ((7, 0, 1, 2), false, [], [], 0)) qs U [] → Q (nI r) U) : k_X11_but Q dp mc ms x T := by
  obtain ⟨ρ, P, c0, c1, n0, P0, n1, P1, a, hp, g, gp, gq⟩ := h
  refine g_but g.1 g.2.1 gp hp0 h8 hst hm47 dp_O hm hs (fun U ρ' fU tU cU gPU => ?_)
  rw [hr]
  exact hk U ⟨ρ', P, c0, c1, n0, P0, n1, P1, RE_s a g.1 fU (by decide) (by decide), pdL_nil, gLD_f fU (by decide) ((tU x g.1.1).trans g.2.1) (fun q _ => cU q) g, gPU, gQl_f fU (by decide) (by decide) (by decide) (cU _) gq⟩
theorem RY_query {Q : Int32 → cS → Prop} {mc ms r : Nat} {qs' : List (Nat × (Nat → Nd))} (h : RY S0 ρ0 dp x ks A yn F G m nd qs T []) (h1 : (qsS nd m).1 = 1) (h40 : qs.length < 40) (hm : 10 ≤ mc) (hs : 300 ≤ ms) (hr : qs.length = r) (e : qs ++ [(m, nd)] = qs') (hk : ∀ U, RY S0 ρ0 dp x ks A yn F G 0 nd0 qs' U [] → Q (nI r) U) : k_X11_query Q dp mc ms x T := by
  obtain ⟨ρ, P, c0, c1, n0, P0, n1, P1, ⟨a1, a2, a3, a4⟩, hp, g, gp, gq⟩ := h
  refine g_queryI g.1 g.2.1 gp gq h1 h40 dp_O hm hs (fun U ρ' fU cU iU tU gPU gQU => ?_)
  rw [hr]
  rw [e] at gQU
  exact hk U ⟨ρ', P, c0, c1, n0, P0, n1, P1, ⟨fr_tm a1 fU (by decide), fun z hz => (cU z hz).trans (a2 z hz), fun z => (iU z).trans (a3 z), tU⟩, pdL_nil, gLD_f fU (by decide) tU (fun q hq => cU q (by rcases hq with rfl | rfl <;> decide)) g, gPU nd0, gQU⟩
end LRY
