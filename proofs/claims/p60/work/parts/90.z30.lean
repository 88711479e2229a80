/-! both worlds together: the language, the draft; what is left alone -/
abbrev dj (l A : List Nat) : Prop := (l.all (fun τ => !A.contains τ)) = true
theorem dj_n {l A : List Nat} {i : Nat} (h : dj l A) (hi : i ∈ l) : i ∉ A := fun hin => by
  have := List.all_eq_true.mp h i hi
  rw [List.contains_iff_mem.mpr hin] at this
  exact Bool.noConfusion this
section RELA
variable {S T : cS} {ρ ρ' : Nat → Nat} {M Am Fm Gm : List Nat} {v v' : Nat → Int32} {f f' : Nat → Nat → Int32} {g g' : Nat → Nat → Int64} {dp x out : Nat}
/-- a text of the draft in rows -/
def rD1 (f : Nat → Nat → Int32) (g : Nat → Nat → Int64) (fl n : Nat) (P : Nat → Nat) : Prop := f 8 fl = nI (wdC P n) ∧ ∀ j, j < wdC P n → g 7 (20 * fl + j) = lN (stW (wdW P n j))
/-- the language, the pad and the draft in rows -/
def rL (v : Nat → Int32) (f : Nat → Nat → Int32) (g : Nat → Nat → Int64) (n : Nat) (P : Nat → Nat) (ks : Nat) (A : Nat → Int64) (yn : Nat) (F G : Nat → Int64) (ad : Bool) (c0 c1 n0 : Nat) (P0 : Nat → Nat) (n1 : Nat) (P1 : Nat → Nat) : Prop := mPow g ∧ (v 2 = nI n ∧ n ≤ 40 ∧ ∀ j, j < n → f 2 j = nI (P j) ∧ P j < 65536) ∧ (v 6 = nI ks ∧ ks ≤ 10 ∧ g 4 = A) ∧ (v 9 = nI yn ∧ yn ≤ 10 ∧ g 5 = F ∧ g 6 = G) ∧ v 10 = bI ad ∧ (v 13 = nI c0 ∧ c0 < 10) ∧ (v 14 = nI c1 ∧ c1 < 1000) ∧ rD1 f g 0 n0 P0 ∧ rD1 f g 1 n1 P1
theorem rL_fr {n : Nat} {P : Nat → Nat} {ks : Nat} {A : Nat → Int64} {yn : Nat} {F G : Nat → Int64} {ad : Bool} {c0 c1 n0 : Nat} {P0 : Nat → Nat} {n1 : Nat} {P1 : Nat → Nat} (h : rF Am Fm Gm v f g v' f' g') (h1 : dj [2, 6, 9, 10, 13, 14] Am) (h2 : dj [2, 8] Fm) (h3 : dj [1, 4, 5, 6, 7] Gm) (hr : rL v f g n P ks A yn F G ad c0 c1 n0 P0 n1 P1) : rL v' f' g' n P ks A yn F G ad c0 c1 n0 P0 n1 P1 := by
  obtain ⟨a1, a2, a3, a4, a5, a6, a7, a8, a9⟩ := hr
  unfold rL rD1
  rw [h.1 2 (dj_n h1 (by decide)), h.1 6 (dj_n h1 (by decide)), h.1 9 (dj_n h1 (by decide)), h.1 10 (dj_n h1 (by decide)), h.1 13 (dj_n h1 (by decide)), h.1 14 (dj_n h1 (by decide)), h.2.1 2 (dj_n h2 (by decide)), h.2.1 8 (dj_n h2 (by decide)), h.2.2 4 (dj_n h3 (by decide)), h.2.2 5 (dj_n h3 (by decide)), h.2.2 6 (dj_n h3 (by decide)), h.2.2 7 (dj_n h3 (by decide))]
  exact ⟨mPow_fr (h.2.2 1 (dj_n h3 (by decide))) a1, a2, a3, a4, a5, a6, a7, a8, a9⟩
/-- the language as documents see it -/
def lgT (ks : Nat) (A : Nat → Int64) (yn : Nat) (F G : Nat → Int64) : LGt := (F, G, yn, fun c => anyB (fun j => A j == c) ks)
theorem rL_lg {n : Nat} {P : Nat → Nat} {ks : Nat} {A : Nat → Int64} {yn : Nat} {F G : Nat → Int64} {ad : Bool} {c0 c1 n0 : Nat} {P0 : Nat → Nat} {n1 : Nat} {P1 : Nat → Nat} (hr : rL v f g n P ks A yn F G ad c0 c1 n0 P0 n1 P1) : rLg v g (lgT ks A yn F G) := by
  obtain ⟨a1, a2, ⟨b1, b2, b3⟩, ⟨c1, c2, c3, c4⟩, -⟩ := hr
  refine ⟨⟨c3, c4⟩, ⟨c1, c2⟩, ks, ⟨b1, b2⟩, ?_⟩
  rw [b3]; rfl
/-- words that were met -/
def wIn (WL : List Int64) (n : Nat) (P : Nat → Nat) : Prop := ∀ j, j < wdC P n → lN (stW (wdW P n j)) ∈ WL
/-- the language, the pad and the draft in both worlds -/
def Lp (k : Nat) (WL : List Int64) (S : cS) (ρ : Nat → Nat) (x : Nat) (v : Nat → Int32) (f : Nat → Nat → Int32) (g : Nat → Nat → Int64) (n : Nat) (P : Nat → Nat) (ks : Nat) (A : Nat → Int64) (yn : Nat) (F G : Nat → Int64) (ad : Bool) (c0 c1 n0 : Nat) (P0 : Nat → Nat) (n1 : Nat) (P1 : Nat → Nat) : Prop := gLD S ρ x n P ks A yn F G ad (nI c0) (nI c1) n0 P0 n1 P1 ∧ rL v f g n P ks A yn F G ad c0 c1 n0 P0 n1 P1 ∧ WL.length + n ≤ k ∧ wIn WL n0 P0 ∧ wIn WL n1 P1 ∧ ∀ i, i < yn → ∃ w, w < 37 ^ 12 ∧ G i = lN w
theorem Lp_fr {k : Nat} {WL : List Int64} {n : Nat} {P : Nat → Nat} {ks : Nat} {A : Nat → Int64} {yn : Nat} {F G : Nat → Int64} {ad : Bool} {c0 c1 n0 : Nat} {P0 : Nat → Nat} {n1 : Nat} {P1 : Nat → Nat} (hc : fr S T ρ ρ' M) (hM : dj [2, 3, 4, 5, 6] M) (hρ : ρ' x = 1) (hx : ∀ q, q = 352 ∨ q = 353 → cr T q x = cr S q x) (h : rF Am Fm Gm v f g v' f' g') (h1 : dj [2, 6, 9, 10, 13, 14] Am) (h2 : dj [2, 8] Fm) (h3 : dj [1, 4, 5, 6, 7] Gm) (hL : Lp k WL S ρ x v f g n P ks A yn F G ad c0 c1 n0 P0 n1 P1) : Lp (k + 1) WL T ρ' x v' f' g' n P ks A yn F G ad c0 c1 n0 P0 n1 P1 := by
  obtain ⟨a1, a2, a3, a4⟩ := hL
  exact ⟨gLD_f hc hM hρ hx a1, rL_fr h h1 h2 h3 a2, by omega, a4⟩
end RELA
