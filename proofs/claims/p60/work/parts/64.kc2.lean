section KW2
variable {p : Program} {l : Launch} {e : Env} {R : Room} {s : State} {m : MethodId} {args : Array Value} {below : List Frame} {meth : Method} {c : Code} {cc : ByteArray} {nL : Nat} {ret : Option FieldType} {A : Nat → Prop} {D : va_G} {Y : cY} {tp dp : Nat} {own : String} {Q : State → Prop} {cells slots : Nat}
variable {pc : Nat} {lv lv' : List (Nat × Value)} {st st' : List Value} {S : cS}
theorem cg_ldc (C : cC p s m args meth c cc nL ret A D Y tp dp own) {idx : Nat} {x : Int32} (h : Cond.constant own idx x ∈ cWs) (d : decode cc pc = .ok (.ldc idx, 2)) (kk : cG p l e R s m args below meth c A D Y nL Q cells slots (pc + 2) lv (.int x :: st) S) : cG p l e R s m args below meth c A D Y nL Q cells slots pc lv st S := fun H locs ls hP hD hS hl => lv_ldc C.1 C.2.1 C.2.2.2.1 (C.2.2.2.2.1 _ h) d (kk H locs ls hP hD hS hl)
end KW2
