/-! both worlds together: leaves -/
section TKF
variable {ks : Nat} {A F G : Nat → Int64} {yn : Nat} {P : Nat → Nat} {n : Nat}
theorem tkP_0 : tkP (lgT ks A yn F G) P n = tk0 ks A F G P n := rfl
theorem tk0_ok (hn : n ≤ 40) : okT (tk0 ks A F G P n) := by
  have := wdC_le P n
  exact (tk_ok (F := F) (S := G) (yn := 0) (stp := fun c => anyB (fun j => A j == c) ks) (st := fun k => lN (stW (wdW P n k))) (n := wdC P n) (by omega) (by omega)).1
theorem gp_20 {l : List (Int64 × Nat)} (h : okT l) (i : Nat) : gpT l i ≤ 20 := by
  unfold gpT
  split
  · omega
  · rw [List.getD_eq_getElem?_getD]
    cases e : l[i]? with
    | none => show 0 - _ ≤ 20; omega
    | some x =>
      have := h.2.1 x (List.mem_of_getElem? e)
      show x.2 - _ ≤ 20; omega
theorem okT_M {d : Nd} (h : okT (nT d)) : tkM d := fun a b x y hab hx hy => (h.2.2 a b x y hab hx hy).1
theorem lf_tok {kd f s : Nat} {b : Bool} {T : List (Int64 × Nat)} (hk : kd ≤ 2) (hT : okT T) (h1 : 1 ≤ T.length ∧ T.length ≤ 6) (h0 : kd = 0 → T.length = 1) (h2 : kd = 2 → T.length = 2) (hs : s ≤ 20) : nLf ((kd, f, s, 0), b, T, [], 0) = true ∧ (tkOk ((kd, f, s, 0), b, T, [], 0) ∨ tlOk ((kd, f, s, 0), b, T, [], 0)) ∧ ndG ((kd, f, s, 0), b, T, [], 0) := by
  refine ⟨decide_eq_true (show kd < 6 by omega), Or.inl ⟨hk, h1.1, h1.2, hs, h2, gp_20 hT⟩, h0, okT_M hT, fun x hx => hT.2.1 x hx, fun e => ?_⟩
  have e : kd = 7 := e
  omega
theorem lf_word {kd f s w : Nat} (hk : kd = 3 ∨ kd = 5) (hs : s ≤ 20) (hw : w < 37 ^ 12) : nLf ((kd, f, s, 0), false, [], [], w) = true ∧ (tkOk ((kd, f, s, 0), false, [], [], w) ∨ tlOk ((kd, f, s, 0), false, [], [], w)) ∧ ndG ((kd, f, s, 0), false, [], [], w) := by
  refine ⟨decide_eq_true (show kd < 6 by omega), Or.inr ⟨show 3 ≤ kd by omega, show kd ≤ 5 by omega, hs, hw, ?_, rfl⟩, fun e => ?_, fun a b x y _ hx => absurd (get_lt hx) (Nat.not_lt_zero a), fun x hx => absurd hx List.not_mem_nil, fun e => ?_⟩
  · rcases hk with rfl | rfl
    · obtain ⟨e1, e2, e3⟩ := ptA_pre (d := ((3, f, s, 0), false, [], [], w)) rfl
      have h12 := lnW_le w
      refine ⟨by rw [e1]; show lnW w + 1 ≤ 13; omega, fun k hk => ?_⟩
      rw [e1] at hk
      have hk : k < lnW w + 1 := hk
      by_cases c : k = lnW w
      · have e3 : ptA ((3, f, s, 0), false, [], [], w) (lnW w) = 38 := e3
        rw [c, e3]; decide
      · rw [e2 k (show k < lnW w by omega)]
        have := dg_lt w k
        show dg w k < 39; omega
    · have e1 : ptN ((5, f, s, 0), false, [], [], w) = [] := by
        have h3 : ¬ nK ((5, f, s, 0), false, [], [], w) = 3 := (by decide : ¬ (5 : Nat) = 3)
        have h4 : ¬ nK ((5, f, s, 0), false, [], [], w) = 4 := (by decide : ¬ (5 : Nat) = 4)
        unfold ptN
        rw [if_neg h3, if_neg h4]
      exact ⟨by rw [e1]; exact Nat.zero_le _, fun k hk => by rw [e1] at hk; exact absurd hk (Nat.not_lt_zero k)⟩
  · have e : kd = 0 := e
    omega
  · have e : kd = 7 := e
    omega
theorem lf_wild {f : Nat} (hn : n ≤ 12) : nLf ((4, f, 0, 0), false, [], (List.range n).map (fun k => pfN (P k)), 0) = true ∧ (tkOk ((4, f, 0, 0), false, [], (List.range n).map (fun k => pfN (P k)), 0) ∨ tlOk ((4, f, 0, 0), false, [], (List.range n).map (fun k => pfN (P k)), 0)) ∧ ndG ((4, f, 0, 0), false, [], (List.range n).map (fun k => pfN (P k)), 0) := by
  have e1 : ptN ((4, f, 0, 0), false, [], (List.range n).map (fun k => pfN (P k)), 0) = (List.range n).map (fun k => pfN (P k)) := by
    have h3 : ¬ nK ((4, f, 0, 0), false, [], (List.range n).map (fun k => pfN (P k)), 0) = 3 := (by decide : ¬ (4 : Nat) = 3)
    have h4 : nK ((4, f, 0, 0), false, [], (List.range n).map (fun k => pfN (P k)), 0) = 4 := rfl
    unfold ptN
    rw [if_neg h3, if_pos h4]; rfl
  refine ⟨rfl, Or.inr ⟨show 3 ≤ 4 by decide, show 4 ≤ 5 by decide, show 0 ≤ 20 by decide, show 0 < 37 ^ 12 by decide, ⟨?_, fun k hk => ?_⟩, rfl⟩, fun e => absurd e (show ¬ (4 : Nat) = 0 by decide), fun a b x y _ hx => absurd (get_lt hx) (Nat.not_lt_zero a), fun x hx => absurd hx List.not_mem_nil, fun e => absurd e (show ¬ (4 : Nat) = 7 by decide)⟩
  · rw [e1, List.length_map, List.length_range]; omega
  · unfold ptA
    rw [e1] at hk ⊢
    rw [List.getD_eq_getElem?_getD, List.getElem?_eq_getElem hk, List.getElem_map]
    exact pfN_lt
end TKF
section CASR
variable {S T U S8 : cS} {ρ ρ' : Nat → Nat} {M Am Fm Gm : List Nat} {v v' : Nat → Int32} {f f' : Nat → Nat → Int32} {g g' : Nat → Nat → Int64} {dp x out k cd dd L : Nat} {x4 : Int32} {xs : Nat → Int32} {R : Int32 → Nat → Nat → cS → (Nat → Int32) → (Nat → Nat → Int32) → (Nat → Nat → Int64) → Prop}
variable {n : Nat} {P : Nat → Nat} {ks : Nat} {A : Nat → Int64} {yn : Nat} {F G : Nat → Int64} {ad : Bool} {c0 c1 n0 : Nat} {P0 : Nat → Nat} {n1 : Nat} {P1 : Nat → Nat} {WL : List Int64} {mc ms : Nat}
variable {so : Nat → Nat} {sd : Nat → List Nat} {sg : Nat → List Dc} {made : Nat} {B : List Dc} {ix : Vw} {mg : Option (Vw × Nat)} {cm pr : Option Vw} {sn : List (Nat × Vw)} {op fi w : Nat} {cc : Option Nat} {off : Bool} {dn : Nat} {hd : Nat → Nat → Nat} {sl : Nat → Option (Nat × Vw)} {m : Nat} {nd : Nat → Nd} {qs : List (Nat × (Nat → Nd))} {w0 w1 : Nat} {H : List (Nat × Nat)} {sk tk : Nat} {CL : List (Nat × Nat × Nat)} {u : Nat} {RR : List (Nat × Nat)}
variable {n' : Nat} {P' : Nat → Nat} {m' : Nat} {nd' : Nat → Nd} {qs' : List (Nat × (Nat → Nd))}
theorem rF_99w {t : Int32} : rF [99, 4, 77] [51] [3, 50] v f g (upd v 99 t) f g := rF_wk rF_99u (by decide) (by decide) (by decide)
end CASR
