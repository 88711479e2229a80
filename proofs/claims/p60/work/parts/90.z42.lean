/-! both worlds together: add -/
theorem tkL_ext {F S : Nat → Int64} {yn : Nat} {stp : Int64 → Bool} {st st' : Nat → Int64} : ∀ {n : Nat}, (∀ q, q < n → st' q = st q) → tkL F S yn stp st' n = tkL F S yn stp st n
  | 0, _ => rfl
  | n + 1, h => by
    rw [tkL, tkL, tkL_ext (n := n) (fun q hq => h q (by omega)), h n (Nat.lt_succ_self n)]
theorem wdC_0 (P : Nat → Nat) : wdC P 0 = 0 := by
  have := wdC_le P 0
  omega
section CASK
variable {S T U S8 : cS} {v v' : Nat → Int32} {f f' : Nat → Nat → Int32} {g g' : Nat → Nat → Int64} {dp x out k cd dd L : Nat} {x4 : Int32} {xs : Nat → Int32} {R : Int32 → Nat → Nat → cS → (Nat → Int32) → (Nat → Nat → Int32) → (Nat → Nat → Int64) → Prop}
variable {n : Nat} {P : Nat → Nat} {ks : Nat} {A : Nat → Int64} {yn : Nat} {F G : Nat → Int64} {ad : Bool} {c0 c1 n0 : Nat} {P0 : Nat → Nat} {n1 : Nat} {P1 : Nat → Nat} {WL : List Int64}
/-- the draft as a document -/
noncomputable def drD (ks : Nat) (A : Nat → Int64) (yn : Nat) (F G : Nat → Int64) (c0 c1 n0 : Nat) (P0 : Nat → Nat) (n1 : Nat) (P1 : Nat → Nat) : Dc := mkD ks A yn F G 0 c0 c1 n0 P0 n1 P1
theorem rL_dr (h : rL v f g n P ks A yn F G ad c0 c1 n0 P0 n1 P1) (h0 : n0 ≤ 40) (h1 : n1 ≤ 40) : rDr (lgT ks A yn F G) v f g (drD ks A yn F G c0 c1 n0 P0 n1 P1) := by
  obtain ⟨a1, a2, a3, a4, a5, a6, a7, a8, a9⟩ := h
  have w0 := wdC_le P0 n0
  have w1 := wdC_le P1 n1
  refine ⟨a6, a7, fun fl hfl => ?_⟩
  rcases (show fl = 0 ∨ fl = 1 by omega) with rfl | rfl
  · refine ⟨wdC P0 n0, by omega, a8.1, ?_, fun q hq => ⟨_, stW_37 _ (wdW_lt P0 n0 q), ?_⟩⟩
    · exact (tkL_ext (fun q hq => by
        have := a8.2 q hq
        rw [show 40 * 0 + (20 * 0 + q) = 20 * 0 + q by omega]; exact this)).symm
    · have := a8.2 q hq
      rw [show 40 * 0 + (20 * 0 + q) = 20 * 0 + q by omega]; exact this
  · refine ⟨wdC P1 n1, by omega, a9.1, ?_, fun q hq => ⟨_, stW_37 _ (wdW_lt P1 n1 q), ?_⟩⟩
    · exact (tkL_ext (fun q hq => by
        have := a9.2 q hq
        rw [show 40 * 0 + (20 * 1 + q) = 20 * 1 + q by omega]; exact this)).symm
    · have := a9.2 q hq
      rw [show 40 * 0 + (20 * 1 + q) = 20 * 1 + q by omega]; exact this
theorem dr_tIn {key : Nat} (h0 : wIn WL n0 P0) (h1 : wIn WL n1 P1) : tIn WL (lgT ks A yn F G) (mkD ks A yn F G key c0 c1 n0 P0 n1 P1) := by
  have gen : ∀ (nn : Nat) (PP : Nat → Nat) (x : Int64 × Nat), wIn WL nn PP → x ∈ tkL F G yn (fun c => anyB (fun j => A j == c) ks) (fun k => lN (stW (wdW PP nn k))) (wdC PP nn) → x.1 ∈ WL ∨ ∃ i, i < yn ∧ x.1 = G i := fun nn PP x hw hx => by
    obtain ⟨h1, -, h3⟩ := (tkL_mem (c := x.1) (q := x.2)).mp hx
    rcases h3 with h3 | ⟨i, h4, -, h6⟩
    · rw [h3]; exact Or.inl (hw _ h1)
    · exact Or.inr ⟨i, h4, h6.symm⟩
  intro fl x hx
  unfold dT at hx
  split at hx
  · exact gen n0 P0 x h0 hx
  · exact gen n1 P1 x h1 hx
/-- behind a deletion nothing has the key -/
theorem dkR_no {sg : Nat → List Dc} {ids : List Nat} {key : Nat} {B B' : List Dc} {lv lv' : Nat → Nat → Bool} {b : Bool} (hk : key < 100) (hb : ∀ d, d ∈ B → dK d < 100) (hs : ∀ n, n ∈ ids → ∀ d, d ∈ sg n → dK d < 100) (hub : ∀ (i i' : Nat) (d d' : Dc), B[i]? = some d → B[i']? = some d' → dK d = dK d' → i = i') (hu : oneK sg ids lv key) (hux : ∀ d, d ∈ B → ∀ (n j : Nat) (d' : Dc), n ∈ ids → (sg n)[j]? = some d' → lv n j = true → dK d' ≠ dK d) (h : dkR sg ids (nI key) B lv B' lv' b) : (∀ d, d ∈ B' → dK d ≠ key) ∧ ∀ (n j : Nat) (d : Dc), n ∈ ids → (sg n)[j]? = some d → lv' n j = true → dK d ≠ key := by
  have inj : ∀ {a : Nat}, a < 100 → nI a = nI key → a = key := fun ha e => (nI_eq (by omega) (by omega)).mp e
  rcases h with ⟨i, d, e1, e2, rfl, rfl, e5⟩ | ⟨e0, rfl, h1⟩
  · have ek := inj (hb d (List.mem_of_getElem? e1)) e2
    refine ⟨fun d' hd' e => ?_, fun n j d' h1 h2 h3 e => hux d (List.mem_of_getElem? e1) n j d' h1 h2 h3 (e.trans ek.symm)⟩
    obtain ⟨j, hj⟩ := List.mem_iff_getElem?.mp hd'
    rw [er_get] at hj
    split at hj
    · have := hub j i d' d hj e1 (e.trans ek.symm); omega
    · have := hub (j + 1) i d' d hj e1 (e.trans ek.symm); omega
  · refine ⟨fun d hd e => e0 d hd (by rw [e]), fun n j d h2 h3 h4 e => ?_⟩
    rcases h1 with ⟨n', j', d', k1, k2, k3, k4, rfl, -⟩ | ⟨k0, rfl, -⟩
    · have h4 : (if n = n' ∧ j = j' then false else lv n j) = true := h4
      by_cases c : n = n' ∧ j = j'
      · rw [if_pos c] at h4; exact absurd h4 (by decide)
      · rw [if_neg c] at h4
        exact c (hu n j d n' j' d' h2 k1 h3 k2 h4 k3 e (inj (hs n' k1 d' (List.mem_of_getElem? k2)) k4))
    · exact k0 n j d h2 h3 h4 (by rw [e])
end CASK
