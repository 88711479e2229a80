/-! the class: Math.abs -/
theorem cmabs_X4_115 : Cond.methodLink RX4 115 Lib.Math.abs.name ∈ cWs := cWs_i1 41 rfl
theorem cmabs_s : Cond.static Lib.Math.abs.name ∈ cWs := cWs_i1 42 rfl
theorem cmabs_c : Cond.code Lib.Math.abs.name Lib.Math.abs.code 1 (some .int) ∈ cWs := cWs_i1 43 rfl
section CGabs
variable {p : Program} {l : Launch} {e : Env} {R : Room} {s : State} {m : MethodId} {args : Array Value} {below : List Frame} {meth : Method} {c : Code} {cc : ByteArray} {nL : Nat} {ret : Option FieldType} {A : Nat → Prop} {D : va_G} {Y : cY} {tp dp : Nat} {own : String} {Q : State → Prop} {cells slots : Nat}
variable {pc : Nat} {lv lv' : List (Nat × Value)} {st : List Value} {S : cS}
theorem cg_mabs (C : cC p s m args meth c cc nL ret A D Y tp dp own) {idx : Nat} {x : Int32} (h1 : Cond.methodLink own idx Lib.Math.abs.name ∈ cWs) (h2 : Cond.static Lib.Math.abs.name ∈ cWs) (h3 : Cond.initialized "java/lang/Math" ∈ cWs) (h4 : Cond.code Lib.Math.abs.name Lib.Math.abs.code 1 (some .int) ∈ cWs) (hframes : 1 ≤ R.frames) (hlocals : (st.map fun v => v.category).sum + 13 ≤ R.locals) (hc : cells ≤ R.cells) (hs : slots ≤ R.slots) (d : decode cc pc = .ok (.invokestatic idx, 3)) (kk : cG p l e R s m args below meth c A D Y nL Q cells slots (pc + 3) lv (.int (if 0 ≤ x then x else 0 - x) :: st) S) : cG p l e R s m args below meth c A D Y nL Q cells slots pc lv (.int x :: st) S := by
  intro H locs ls hP hD hS hlv
  obtain ⟨hx, hb, hml, hown, hts, hK, hlo, hr, hA, hE⟩ := C
  exact va_mabs hx hb (hml.trans hlv.1.symm) hown (hts _ h1) (hts _ h2) (hts _ h3) (hts _ h4) hframes hlocals hc hs d (kk H locs ls hP hD hS hlv)
end CGabs
