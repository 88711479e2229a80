/-! both worlds together: synonym, text, columns -/
section CASD
variable {S T : cS} {ρ ρ' : Nat → Nat} {M Am Fm Gm : List Nat} {v v' : Nat → Int32} {f f' : Nat → Nat → Int32} {g g' : Nat → Nat → Int64} {dp x out k cd dd L : Nat} {x4 : Int32} {xs : Nat → Int32} {R : Int32 → Nat → Nat → cS → (Nat → Int32) → (Nat → Nat → Int32) → (Nat → Nat → Int64) → Prop}
variable {n : Nat} {P : Nat → Nat} {ks : Nat} {A : Nat → Int64} {yn : Nat} {F G : Nat → Int64} {ad : Bool} {c0 c1 n0 : Nat} {P0 : Nat → Nat} {n1 : Nat} {P1 : Nat → Nat}
theorem Rest_bd {l : LGt} {WL : List Int64} {mc ms : Nat} (hk : k < 512) (hm : mc ≤ 1170) (hs : ms ≤ 13440) (hr : Rest l ad k WL S ρ dp x out v f g cd dd) : cd + mc ≤ 601024 ∧ dd + ms ≤ 7293033 := by
  obtain ⟨-, so, sd, sg, made, B, ix, mg, cm, pr, sn, op, fi, w, cc, off, dn, hd, sl, m, nd, qs, w0, w1, H, sk, tk, CL, u, R, -, -, -, -, -, -, -, -, -, b7, b8⟩ := hr
  omega
theorem stW_37 (w : Nat) (h : w < 37 ^ 12) : stW w < 37 ^ 12 := Nat.lt_of_le_of_lt (stW_le w) h
/-- the words of a pad -/
noncomputable def wLs (n : Nat) (P : Nat → Nat) : List Int64 := (List.range (wdC P n)).map (fun j => lN (stW (wdW P n j)))
theorem wLs_in {WL : List Int64} : wIn (WL ++ wLs n P) n P := fun j hj => List.mem_append.mpr (Or.inr (List.mem_map.mpr ⟨j, List.mem_range.mpr hj, rfl⟩))
theorem wIn_app {WL W2 : List Int64} (h : wIn WL n P) : wIn (WL ++ W2) n P := fun j hj => List.mem_append.mpr (Or.inl (h j hj))
theorem gLD_n {c0 c1 : Int32} (g : gLD S ρ x n P ks A yn F G ad c0 c1 n0 P0 n1 P1) : n0 ≤ 40 ∧ n1 ≤ 40 := by
  obtain ⟨-, -, L, D, p, -, -, -, -, -, ⟨-, -, -, -, t0, t1, -, -, ⟨h0, -⟩, ⟨h1, -⟩⟩⟩ := g
  exact ⟨h0.2.1, h1.2.1⟩
end CASD
