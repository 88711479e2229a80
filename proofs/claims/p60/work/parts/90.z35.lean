/-! both worlds together: what only reads -/
section CASE
variable {S T S8 : cS} {ρ ρ' : Nat → Nat} {M Am Fm Gm : List Nat} {v v' : Nat → Int32} {f f' : Nat → Nat → Int32} {g g' : Nat → Nat → Int64} {dp x out k cd dd L : Nat} {x4 : Int32} {xs : Nat → Int32} {R : Int32 → Nat → Nat → cS → (Nat → Int32) → (Nat → Nat → Int32) → (Nat → Nat → Int64) → Prop}
variable {n : Nat} {P : Nat → Nat} {ks : Nat} {A : Nat → Int64} {yn : Nat} {F G : Nat → Int64} {ad : Bool} {c0 c1 n0 : Nat} {P0 : Nat → Nat} {n1 : Nat} {P1 : Nat → Nat} {WL : List Int64} {mc ms : Nat}
/-- what only reads leaves all as it was -/
theorem Rel_R (hl : Lp k WL S ρ x v f g n P ks A yn F G ad c0 c1 n0 P0 n1 P1) (hr : Rest (lgT ks A yn F G) ad k WL S ρ dp x out v f g cd dd) (hc : fr S T ρ ρ' M) (hM : dj (lRm ++ [2, 3, 4, 5, 6]) M) (ho : cA T out 15 ∧ cn T out = 1 ∧ ρ' out = 90) (h : rF Am Fm Gm v f g v' f' g') (h1 : dj (lRv ++ [2, 6, 9, 10, 13, 14]) Am) (h2 : dj (lRf ++ [2, 8]) Fm) (h3 : dj [1, 4, 5, 6, 7, 12, 17, 45] Gm) (hm : mc ≤ 1170) (hs : ms ≤ 13440) : Rel (k + 1) T dp x out v' f' g' (cd + mc) (dd + ms) := by
  have hx := hl.1
  have x1 : 1 ∉ M := dj_n hM (by decide)
  exact Rel_L hc (dj_app hM).1 ho h (dj_app h1).1 (dj_app h2).1 (dj_sub h3 (by decide)) (fun _ z => z) hm hs hr (Lp_fr hc (dj_app hM).2 ((hc.2 x hx.1.1 (by rw [hx.2.1]; exact x1)).trans hx.2.1) (fun q _ => fr_cr hc hx.1 (by rw [hx.2.1]; exact x1)) h (dj_app h1).2 (dj_app h2).2 (dj_sub h3 (by decide)) hl)
theorem rd_99 (hl : Lp k WL S ρ x v f g n P ks A yn F G ad c0 c1 n0 P0 n1 P1) (hr : Rest (lgT ks A yn F G) ad k WL S ρ dp x out v f g cd dd) (f90 : fr S S8 ρ ρ [90]) (o8 : cA S8 out 15 ∧ cn S8 out = 1 ∧ ρ out = 90) : Rel (k + 1) S8 dp x out (upd v 99 (nI 0)) f g (cd + 1) (dd + 6) := Rel_R hl hr f90 (by decide) o8 rF_99u (by decide) (by decide) (by decide) (by decide) (by decide)
theorem rd_0 (h : Rel k S dp x out v f g cd dd) : Rel (k + 1) S dp x out (upd v 99 (nI 0)) f g cd dd := Rel_x (mc := 0) (ms := 0) (by decide) (by decide) h
end CASE
