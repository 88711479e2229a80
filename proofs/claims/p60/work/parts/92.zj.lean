/-! the words are typed -/
/-- what was typed since -/
def TYd (S T : cS) (ρ : Nat → Nat) (x : Nat) (ad : Bool) (c0 c1 : Int32) (n0 : Nat) (P0 : Nat → Nat) (n1 : Nat) (P1 : Nat → Nat) (l : List Nat) : Prop := fr S T ρ ρ [3] ∧ ∃ P, pdL P l ∧ gLD T ρ x l.length P 1 A6 1 F6 G6 ad c0 c1 n0 P0 n1 P1
section LZL
variable {S T : cS} {ρ : Nat → Nat} {dp x : Nat} {ad : Bool} {c0 c1 : Int32} {n0 n1 : Nat} {P0 P1 : Nat → Nat} {l l' : List Nat}
theorem TY_x (h : TYd S T ρ x ad c0 c1 n0 P0 n1 P1 l) : cA T x 11 := by
  obtain ⟨-, P, -, g⟩ := h
  exact g.1
theorem TY_e (h : TYd S T ρ x ad c0 c1 n0 P0 n1 P1 l) (e : l = l') : TYd S T ρ x ad c0 c1 n0 P0 n1 P1 l' := e ▸ h
theorem TY_s {Q : Int32 → cS → Prop} {y N : Nat} (h : TYd S T ρ x ad c0 c1 n0 P0 n1 P1 l) (hy : 32 ≤ y ∧ y ≤ 126) (hl : N + 8 ≤ 40 ∧ l.length < N + 8) (hk : ∀ U, TYd S U ρ x ad c0 c1 n0 P0 n1 P1 (l ++ [y]) → Q (nI (l.length + 1)) U) : k_X11_type Q dp x (nI y) T := by
  obtain ⟨f, P, hp, g⟩ := h
  refine g_type g hy (by omega) (fun U fU gU => hk U ⟨fr_tr f fU (fun _ _ z => z), upR P l.length y, fun k q hq => ?_, by rw [List.length_append]; exact gU⟩)
  rcases Nat.lt_or_ge k l.length with c | c
  · rw [List.getElem?_append_left c] at hq
    rw [upR_n (by omega)]
    exact hp k q hq
  · have := get_lt hq
    rw [List.length_append] at this
    obtain rfl : k = l.length := by have : k < l.length + 1 := this; omega
    rw [List.getElem?_concat_length] at hq
    cases hq
    exact upR_s
theorem q_ty1 {Q : cS → Prop} (h0 : TYd S T ρ x ad c0 c1 n0 P0 n1 P1 l) (hl : l.length + 8 ≤ 40) (h : ∀ U, TYd S U ρ x ad c0 c1 n0 P0 n1 P1 (l ++ sgW 1) → Q U) : k_L_types Q dp x (nI 1) T := by
  unfold k_L_types
  refine ⟨fun _ => ?_, fun c => absurd rfl c⟩
  unfold k_L_types_10
  refine ⟨fun c => absurd rfl c, fun _ => ?_⟩
  unfold k_L_types_23
  refine ⟨TY_x h0, TY_s h0 (by decide) ⟨hl, by simp⟩ (fun T0 h1 => ?_)⟩
  refine ⟨TY_x h1, TY_s h1 (by decide) ⟨hl, by simp⟩ (fun T1 h2 => ?_)⟩
  refine ⟨TY_x h2, TY_s h2 (by decide) ⟨hl, by simp⟩ (fun T2 h3 => ?_)⟩
  unfold k_L_types_41
  refine ⟨fun _ => ?_, fun c => absurd c (by decide)⟩
  unfold k_L_types_53
  refine ⟨fun _ => ?_, fun c => absurd c (by decide)⟩
  unfold k_L_types_86
  refine ⟨fun _ => ?_, fun c => absurd c (by decide)⟩
  unfold k_L_types_112
  refine ⟨fun _ => ?_, fun c => absurd c (by decide)⟩
  unfold k_L_types_124
  refine ⟨fun c => absurd c (by decide), fun _ => ?_⟩
  refine ⟨fun _ => ?_, fun c => absurd c (by decide)⟩
  unfold k_L_types_155
  refine ⟨fun _ => ?_, fun c => absurd c (by decide)⟩
  unfold k_L_types_189
  refine ⟨fun _ => ?_, fun c => absurd c (by decide)⟩
  unfold k_L_types_216
  refine ⟨fun _ => ?_, fun c => absurd c (by decide)⟩
  unfold k_L_types_229
  refine ⟨TY_x h3, TY_s h3 (by decide) ⟨hl, by simp⟩ (fun T3 h4 => ?_)⟩
  exact h _ (TY_e h4 (by simp [sgW, ltW]))
theorem q_ty2 {Q : cS → Prop} (h0 : TYd S T ρ x ad c0 c1 n0 P0 n1 P1 l) (hl : l.length + 8 ≤ 40) (h : ∀ U, TYd S U ρ x ad c0 c1 n0 P0 n1 P1 (l ++ sgW 2) → Q U) : k_L_types Q dp x (nI 2) T := by
  unfold k_L_types
  refine ⟨fun c => absurd c (by decide), fun _ => ?_⟩
  refine ⟨fun c => absurd rfl c, fun _ => ?_⟩
  unfold k_L_types_10
  refine ⟨fun _ => ?_, fun c => absurd c (by decide)⟩
  unfold k_L_types_23
  refine ⟨TY_x h0, TY_s h0 (by decide) ⟨hl, by simp⟩ (fun T0 h1 => ?_)⟩
  refine ⟨TY_x h1, TY_s h1 (by decide) ⟨hl, by simp⟩ (fun T1 h2 => ?_)⟩
  refine ⟨TY_x h2, TY_s h2 (by decide) ⟨hl, by simp⟩ (fun T2 h3 => ?_)⟩
  unfold k_L_types_41
  refine ⟨fun c => absurd rfl c, fun _ => ?_⟩
  refine ⟨TY_x h3, TY_s h3 (by decide) ⟨hl, by simp⟩ (fun T3 h4 => ?_)⟩
  unfold k_L_types_53
  refine ⟨fun _ => ?_, fun c => absurd c (by decide)⟩
  unfold k_L_types_86
  refine ⟨fun _ => ?_, fun c => absurd c (by decide)⟩
  unfold k_L_types_112
  refine ⟨fun _ => ?_, fun c => absurd c (by decide)⟩
  unfold k_L_types_124
  refine ⟨fun c => absurd c (by decide), fun _ => ?_⟩
  refine ⟨fun _ => ?_, fun c => absurd c (by decide)⟩
  unfold k_L_types_155
  refine ⟨fun _ => ?_, fun c => absurd c (by decide)⟩
  unfold k_L_types_189
  refine ⟨fun _ => ?_, fun c => absurd c (by decide)⟩
  unfold k_L_types_216
  refine ⟨fun _ => ?_, fun c => absurd c (by decide)⟩
  unfold k_L_types_229
  refine ⟨TY_x h4, TY_s h4 (by decide) ⟨hl, by simp⟩ (fun T4 h5 => ?_)⟩
  exact h _ (TY_e h5 (by simp [sgW, ltW]))
theorem q_ty3 {Q : cS → Prop} (h0 : TYd S T ρ x ad c0 c1 n0 P0 n1 P1 l) (hl : l.length + 8 ≤ 40) (h : ∀ U, TYd S U ρ x ad c0 c1 n0 P0 n1 P1 (l ++ sgW 3) → Q U) : k_L_types Q dp x (nI 3) T := by
  unfold k_L_types
  refine ⟨fun c => absurd c (by decide), fun _ => ?_⟩
  refine ⟨fun _ => ?_, fun c => absurd c (by decide)⟩
  unfold k_L_types_41
  refine ⟨fun _ => ?_, fun c => absurd c (by decide)⟩
  unfold k_L_types_53
  refine ⟨fun c => absurd rfl c, fun _ => ?_⟩
  refine ⟨TY_x h0, TY_s h0 (by decide) ⟨hl, by simp⟩ (fun T0 h1 => ?_)⟩
  refine ⟨TY_x h1, TY_s h1 (by decide) ⟨hl, by simp⟩ (fun T1 h2 => ?_)⟩
  refine ⟨TY_x h2, TY_s h2 (by decide) ⟨hl, by simp⟩ (fun T2 h3 => ?_)⟩
  refine ⟨TY_x h3, TY_s h3 (by decide) ⟨hl, by simp⟩ (fun T3 h4 => ?_)⟩
  unfold k_L_types_86
  refine ⟨fun _ => ?_, fun c => absurd c (by decide)⟩
  unfold k_L_types_112
  refine ⟨fun _ => ?_, fun c => absurd c (by decide)⟩
  unfold k_L_types_124
  refine ⟨fun _ => ?_, fun c => absurd rfl c⟩
  unfold k_L_types_134
  refine ⟨TY_x h4, TY_s h4 (by decide) ⟨hl, by simp⟩ (fun T4 h5 => ?_)⟩
  refine ⟨TY_x h5, TY_s h5 (by decide) ⟨hl, by simp⟩ (fun T5 h6 => ?_)⟩
  refine ⟨TY_x h6, TY_s h6 (by decide) ⟨hl, by simp⟩ (fun T6 h7 => ?_)⟩
  unfold k_L_types_155
  refine ⟨fun _ => ?_, fun c => absurd c (by decide)⟩
  unfold k_L_types_189
  refine ⟨fun _ => ?_, fun c => absurd c (by decide)⟩
  unfold k_L_types_216
  refine ⟨fun _ => ?_, fun c => absurd c (by decide)⟩
  unfold k_L_types_229
  refine ⟨TY_x h7, TY_s h7 (by decide) ⟨hl, by simp⟩ (fun T7 h8 => ?_)⟩
  exact h _ (TY_e h8 (by simp [sgW, ltW]))
theorem q_ty4 {Q : cS → Prop} (h0 : TYd S T ρ x ad c0 c1 n0 P0 n1 P1 l) (hl : l.length + 8 ≤ 40) (h : ∀ U, TYd S U ρ x ad c0 c1 n0 P0 n1 P1 (l ++ sgW 4) → Q U) : k_L_types Q dp x (nI 4) T := by
  unfold k_L_types
  refine ⟨fun c => absurd c (by decide), fun _ => ?_⟩
  refine ⟨fun _ => ?_, fun c => absurd c (by decide)⟩
  unfold k_L_types_41
  refine ⟨fun _ => ?_, fun c => absurd c (by decide)⟩
  unfold k_L_types_53
  refine ⟨fun _ => ?_, fun c => absurd c (by decide)⟩
  unfold k_L_types_86
  refine ⟨fun c => absurd rfl c, fun _ => ?_⟩
  refine ⟨TY_x h0, TY_s h0 (by decide) ⟨hl, by simp⟩ (fun T0 h1 => ?_)⟩
  refine ⟨TY_x h1, TY_s h1 (by decide) ⟨hl, by simp⟩ (fun T1 h2 => ?_)⟩
  refine ⟨TY_x h2, TY_s h2 (by decide) ⟨hl, by simp⟩ (fun T2 h3 => ?_)⟩
  unfold k_L_types_112
  refine ⟨fun _ => ?_, fun c => absurd c (by decide)⟩
  unfold k_L_types_124
  refine ⟨fun c => absurd c (by decide), fun _ => ?_⟩
  refine ⟨fun _ => ?_, fun c => absurd c (by decide)⟩
  unfold k_L_types_155
  refine ⟨fun _ => ?_, fun c => absurd c (by decide)⟩
  unfold k_L_types_189
  refine ⟨fun _ => ?_, fun c => absurd c (by decide)⟩
  unfold k_L_types_216
  refine ⟨fun c => absurd rfl c, fun _ => ?_⟩
  unfold k_L_types_229
  refine ⟨TY_x h3, TY_s h3 (by decide) ⟨hl, by simp⟩ (fun T3 h4 => ?_)⟩
  exact h _ (TY_e h4 (by simp [sgW, ltW]))
theorem q_ty5 {Q : cS → Prop} (h0 : TYd S T ρ x ad c0 c1 n0 P0 n1 P1 l) (hl : l.length + 8 ≤ 40) (h : ∀ U, TYd S U ρ x ad c0 c1 n0 P0 n1 P1 (l ++ sgW 5) → Q U) : k_L_types Q dp x (nI 5) T := by
  unfold k_L_types
  refine ⟨fun c => absurd c (by decide), fun _ => ?_⟩
  refine ⟨fun _ => ?_, fun c => absurd c (by decide)⟩
  unfold k_L_types_41
  refine ⟨fun _ => ?_, fun c => absurd c (by decide)⟩
  unfold k_L_types_53
  refine ⟨fun _ => ?_, fun c => absurd c (by decide)⟩
  unfold k_L_types_86
  refine ⟨fun _ => ?_, fun c => absurd c (by decide)⟩
  unfold k_L_types_112
  refine ⟨fun c => absurd rfl c, fun _ => ?_⟩
  refine ⟨TY_x h0, TY_s h0 (by decide) ⟨hl, by simp⟩ (fun T0 h1 => ?_)⟩
  unfold k_L_types_124
  refine ⟨fun c => absurd c (by decide), fun _ => ?_⟩
  refine ⟨fun c => absurd rfl c, fun _ => ?_⟩
  unfold k_L_types_134
  refine ⟨TY_x h1, TY_s h1 (by decide) ⟨hl, by simp⟩ (fun T1 h2 => ?_)⟩
  refine ⟨TY_x h2, TY_s h2 (by decide) ⟨hl, by simp⟩ (fun T2 h3 => ?_)⟩
  refine ⟨TY_x h3, TY_s h3 (by decide) ⟨hl, by simp⟩ (fun T3 h4 => ?_)⟩
  unfold k_L_types_155
  refine ⟨fun _ => ?_, fun c => absurd c (by decide)⟩
  unfold k_L_types_189
  refine ⟨fun _ => ?_, fun c => absurd c (by decide)⟩
  unfold k_L_types_216
  refine ⟨fun _ => ?_, fun c => absurd c (by decide)⟩
  unfold k_L_types_229
  refine ⟨TY_x h4, TY_s h4 (by decide) ⟨hl, by simp⟩ (fun T4 h5 => ?_)⟩
  exact h _ (TY_e h5 (by simp [sgW, ltW]))
theorem q_ty6 {Q : cS → Prop} (h0 : TYd S T ρ x ad c0 c1 n0 P0 n1 P1 l) (hl : l.length + 8 ≤ 40) (h : ∀ U, TYd S U ρ x ad c0 c1 n0 P0 n1 P1 (l ++ sgW 6) → Q U) : k_L_types Q dp x (nI 6) T := by
  unfold k_L_types
  refine ⟨fun c => absurd c (by decide), fun _ => ?_⟩
  refine ⟨fun _ => ?_, fun c => absurd c (by decide)⟩
  unfold k_L_types_41
  refine ⟨fun _ => ?_, fun c => absurd c (by decide)⟩
  unfold k_L_types_53
  refine ⟨fun _ => ?_, fun c => absurd c (by decide)⟩
  unfold k_L_types_86
  refine ⟨fun _ => ?_, fun c => absurd c (by decide)⟩
  unfold k_L_types_112
  refine ⟨fun _ => ?_, fun c => absurd c (by decide)⟩
  unfold k_L_types_124
  refine ⟨fun c => absurd c (by decide), fun _ => ?_⟩
  refine ⟨fun _ => ?_, fun c => absurd c (by decide)⟩
  unfold k_L_types_155
  refine ⟨fun c => absurd rfl c, fun _ => ?_⟩
  refine ⟨TY_x h0, TY_s h0 (by decide) ⟨hl, by simp⟩ (fun T0 h1 => ?_)⟩
  refine ⟨TY_x h1, TY_s h1 (by decide) ⟨hl, by simp⟩ (fun T1 h2 => ?_)⟩
  refine ⟨TY_x h2, TY_s h2 (by decide) ⟨hl, by simp⟩ (fun T2 h3 => ?_)⟩
  refine ⟨TY_x h3, TY_s h3 (by decide) ⟨hl, by simp⟩ (fun T3 h4 => ?_)⟩
  unfold k_L_types_189
  refine ⟨fun _ => ?_, fun c => absurd c (by decide)⟩
  unfold k_L_types_216
  refine ⟨fun _ => ?_, fun c => absurd c (by decide)⟩
  unfold k_L_types_229
  refine ⟨TY_x h4, TY_s h4 (by decide) ⟨hl, by simp⟩ (fun T4 h5 => ?_)⟩
  exact h _ (TY_e h5 (by simp [sgW, ltW]))
theorem q_ty7 {Q : cS → Prop} (h0 : TYd S T ρ x ad c0 c1 n0 P0 n1 P1 l) (hl : l.length + 8 ≤ 40) (h : ∀ U, TYd S U ρ x ad c0 c1 n0 P0 n1 P1 (l ++ sgW 7) → Q U) : k_L_types Q dp x (nI 7) T := by
  unfold k_L_types
  refine ⟨fun c => absurd c (by decide), fun _ => ?_⟩
  refine ⟨fun _ => ?_, fun c => absurd c (by decide)⟩
  unfold k_L_types_41
  refine ⟨fun _ => ?_, fun c => absurd c (by decide)⟩
  unfold k_L_types_53
  refine ⟨fun _ => ?_, fun c => absurd c (by decide)⟩
  unfold k_L_types_86
  refine ⟨fun _ => ?_, fun c => absurd c (by decide)⟩
  unfold k_L_types_112
  refine ⟨fun _ => ?_, fun c => absurd c (by decide)⟩
  unfold k_L_types_124
  refine ⟨fun c => absurd c (by decide), fun _ => ?_⟩
  refine ⟨fun _ => ?_, fun c => absurd c (by decide)⟩
  unfold k_L_types_155
  refine ⟨fun _ => ?_, fun c => absurd c (by decide)⟩
  unfold k_L_types_189
  refine ⟨fun c => absurd rfl c, fun _ => ?_⟩
  refine ⟨TY_x h0, TY_s h0 (by decide) ⟨hl, by simp⟩ (fun T0 h1 => ?_)⟩
  refine ⟨TY_x h1, TY_s h1 (by decide) ⟨hl, by simp⟩ (fun T1 h2 => ?_)⟩
  refine ⟨TY_x h2, TY_s h2 (by decide) ⟨hl, by simp⟩ (fun T2 h3 => ?_)⟩
  unfold k_L_types_216
  refine ⟨fun _ => ?_, fun c => absurd c (by decide)⟩
  unfold k_L_types_229
  refine ⟨TY_x h3, TY_s h3 (by decide) ⟨hl, by simp⟩ (fun T3 h4 => ?_)⟩
  exact h _ (TY_e h4 (by simp [sgW, ltW]))
theorem q_L_types {Q : cS → Prop} {w : Nat} (hw : 1 ≤ w ∧ w ≤ 7) (h0 : TYd S T ρ x ad c0 c1 n0 P0 n1 P1 l) (hl : l.length + 8 ≤ 40) (h : ∀ U, TYd S U ρ x ad c0 c1 n0 P0 n1 P1 (l ++ sgW w) → Q U) : k_L_types Q dp x (nI w) T := by
  have : w = 1 ∨ w = 2 ∨ w = 3 ∨ w = 4 ∨ w = 5 ∨ w = 6 ∨ w = 7 := by omega
  rcases this with rfl | rfl | rfl | rfl | rfl | rfl | rfl
  · exact q_ty1 h0 hl h
  · exact q_ty2 h0 hl h
  · exact q_ty3 h0 hl h
  · exact q_ty4 h0 hl h
  · exact q_ty5 h0 hl h
  · exact q_ty6 h0 hl h
  · exact q_ty7 h0 hl h
end LZL
