/-! the reference: step -/
section ST
variable {v v' : Nat → Int32} {f f' : Nat → Nat → Int32} {g g' : Nat → Nat → Int64} {l : LGt} {made dn w : Nat} {sg : Nat → List Dc} {hd : Nat → Nat → Nat} {ids : List Nat} {lv : Nat → Nat → Bool} {cc : Option Nat} {off : Bool} {mg : Option (Vw × Nat)}
theorem rF_99 {A Fm Gm : List Nat} {t : Int32} (h : rF A Fm Gm (upd v 99 t) f g v' f' g') : rF (99 :: A) Fm Gm v f g v' f' g' := ⟨fun i hi => (h.1 i (fun q => hi (List.mem_cons_of_mem _ q))).trans (upd_n (fun e => hi (by rw [e]; exact List.mem_cons_self))), h.2.1, h.2.2⟩
theorem rMg_fr (h1 : v' 49 = v 49) (h2 : v' 52 = v 52) (h3 : v' 53 = v 53) (h4 : f' 33 = f 33) (h5 : f' 34 = f 34) (h : rMg v f sg mg) : rMg v' f' sg mg := by
  unfold rMg
  rw [h1, h2, h3, h4, h5]; exact h
end ST
