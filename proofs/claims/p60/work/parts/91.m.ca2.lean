section FR6
variable {p : Program} {l : Launch} {e : Env} {R : Room} {s : State} {m : MethodId} {args : Array Value} {below : List Frame} {meth : Method} {c : Code} {cc : ByteArray} {nL : Nat} {ret : Option FieldType} {A : Nat → Prop} {D : va_G} {Y : cY} {tp dp : Nat} {own : String} {Q : State → Prop} {cells slots : Nat}
variable {pc : Nat} {lv lv' : List (Nat × Value)} {st st' : List Value} {S : cS}
/-- the law's draws: any number below -/
theorem q_L_from {Q : Int32 → cS → Prop} {dp mc ms L : Nat} {k n : Int32} {S : cS} (hL : L ≤ 260) (hk : 0 ≤ k) (hn : 0 < n) (h : ∀ r : Int32, 0 ≤ r → r < n → Q r S) : ks_L_from Q dp mc ms L k n S := by
  have z0 : (0 : Int32).toInt = 0 := rfl
  obtain ⟨d, hd, rfl⟩ := nI_of (x := n) (fun z => by rw [Int32.lt_iff_toInt_lt] at z hn; omega)
  obtain ⟨j, hj, rfl⟩ := nI_of (x := k) (fun z => by rw [Int32.lt_iff_toInt_lt] at z; rw [Int32.le_iff_toInt_le] at hk; omega)
  have hd0 : 0 < d := (nI_gt0 hd).mp hn
  have key : ∀ z : Int32, Q (((z &&& 2147483647)) - ((z &&& 2147483647)) / nI d * nI d) S := fun z => by
    obtain ⟨a, ha, e⟩ := pk_andE z (m := 2147483647) 31 rfl
    rw [e, pk_rem ha hd0 hd]
    exact h _ (nI_pos' (Nat.lt_trans (Nat.mod_lt _ hd0) hd)) (nI_lt (Nat.mod_lt _ hd0) hd)
  unfold ks_L_from
  refine ⟨fun h0 => ⟨h0, ?_, fun z => ⟨nI_ne0 hd0 hd, ⟨Nat.zero_le _, Nat.zero_le _⟩, key _⟩⟩, fun _ => ⟨nI_ne0 hd0 hd, ⟨Nat.zero_le _, Nat.zero_le _⟩, key _⟩⟩
  have hL0 : 0 < L := Nat.pos_of_ne_zero fun e => h0 (by rw [e]; rfl)
  rw [pk_rem hj hL0 (by omega)]
  exact vp_in_nI (Nat.mod_lt _ hL0) (by omega)
theorem cg_from (C : cC p s m args meth c cc nL ret A D Y tp dp own) {sc L : Nat} {xs : Nat → Int32} (hX : va_X sc L xs s s.heap) (hbl : sc < s.heap.size) (hbA : ¬ A sc) (hL : L ≤ 260) {idx F M N Lo : Nat} {k n : Int32} (hk : 0 ≤ k) (hn : 0 < n) (hc : cCal true own idx yL_from cL_from 4 (some .int) 3) (hR : 0 + 1 ≤ F ∧ 16 + (4 + 11) + 0 ≤ Lo) (hm : cells ≤ M ∧ slots ≤ N) (hsz : (st.map fun v => v.category).sum ≤ 16) (d : decode cc pc = .ok (.invokestatic idx, 3)) (kk : ∀ r : Int32, 0 ≤ r → r < n → cG p l e (cRm F M N Lo) s m args below meth c A D Y nL Q cells slots (pc + 3) lv (.int r :: st) S) : cG p l e (cRm F M N Lo) s m args below meth c A D Y nL Q cells slots pc lv (.int n :: .int k :: .ref sc :: st) S := by
  refine cg_callSi C hX hbl hbA (ts_L_from l (sc := sc) (L := L) (xs := xs) hL 0 0 k n S dp (P := fun r S' => (0 ≤ r ∧ r < n) ∧ S' = S) (q_L_from hL hk hn (fun r h1 h2 => ⟨⟨h1, h2⟩, rfl⟩))) hc rfl hR hm rfl hsz d (fun r S' h => ?_)
  obtain ⟨⟨h1, h2⟩, rfl⟩ := h
  exact kk r h1 h2
end FR6
