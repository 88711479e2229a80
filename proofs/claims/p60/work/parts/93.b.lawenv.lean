/-! what the start of the law gives: the classes, the statics -/
theorem c_eqi {X : Term} {args : Array Value} {s : State} {z : Int32} (h : (Cond.eq X (.int z)).before args s = true) : X.eval args s none [] s = some (.int z) := by
  cases hv : X.eval args s none [] s with
  | none => simp [Cond.before, Cond.holds, Cond.value, hv] at h
  | some w =>
    have hz : (Term.int z).eval args s none [] s = some (.int z) := rfl
    simp only [Cond.before, Cond.holds, Cond.value, hv, hz] at h
    cases w <;> simp_all
theorem c_eql {X : Term} {args : Array Value} {s : State} {z : Int64} (h : (Cond.eq X (.long z)).before args s = true) : X.eval args s none [] s = some (.long z) := by
  cases hv : X.eval args s none [] s with
  | none => simp [Cond.before, Cond.holds, Cond.value, hv] at h
  | some w =>
    have hz : (Term.long z).eval args s none [] s = some (.long z) := rfl
    simp only [Cond.before, Cond.holds, Cond.value, hv, hz] at h
    cases w <;> simp_all
set_option maxRecDepth 100000 in
theorem lz_pow : ∀ j, j < 12 → Cond.eq (.elem (.static RX9 "POWERS" "[J") (.int (Int32.ofNat j))) (.long (lN (37 ^ j))) ∈ flatC (Jvm.Cond.and given_1 narrow_1) := by decide +kernel
set_option maxRecDepth 100000 in
theorem lz_n1 : (Cond.arrayOf (.static RX9 "POWERS" "[J") .long ∈ flatC (Jvm.Cond.and given_1 narrow_1) ∧ Cond.eq (.length (.static RX9 "POWERS" "[J")) (.int 12) ∈ flatC (Jvm.Cond.and given_1 narrow_1)) ∧ (Cond.arrayOf (.static RJx4a65c "DEFAULTCAPACITY_EMPTY_ELEMENTDATA" "[Ljava/lang/Object;") (.object "java/lang/Object") ∈ flatC (Jvm.Cond.and given_1 narrow_1) ∧ Cond.eq (.length (.static RJx4a65c "DEFAULTCAPACITY_EMPTY_ELEMENTDATA" "[Ljava/lang/Object;")) (.int 0) ∈ flatC (Jvm.Cond.and given_1 narrow_1)) ∧ Cond.isRef (.static Bundle.tN "UNASSIGNED_STACK" Bundle.steD) ∈ flatC (Jvm.Cond.and given_1 narrow_1) ∧ Cond.isRef (.static Bundle.tN "SUPPRESSED_SENTINEL" Bundle.listD) ∈ flatC (Jvm.Cond.and given_1 narrow_1) := by decide +kernel
set_option maxRecDepth 100000 in
theorem lz_t1 : Cond.laysStatic RX9 "POWERS" "[J" ∈ lw_tbl ∧ Cond.initialized RX9 ∈ lw_tbl ∧ Cond.laysStatic RJx4a65c "DEFAULTCAPACITY_EMPTY_ELEMENTDATA" "[Ljava/lang/Object;" ∈ lw_tbl ∧ Cond.initialized RJx4a65c ∈ lw_tbl ∧ Cond.laysStatic Bundle.tN "UNASSIGNED_STACK" Bundle.steD ∈ lw_tbl ∧ Cond.laysStatic Bundle.tN "SUPPRESSED_SENTINEL" Bundle.listD ∈ lw_tbl ∧ Cond.initialized Bundle.tN ∈ lw_tbl ∧ Cond.arrayOver (.array .int) ∈ lw_tbl ∧ Cond.arrayOver (.object "java/lang/Object") ∈ lw_tbl := by decide +kernel
set_option maxRecDepth 100000 in
theorem lz_s1 : ∀ q ∈ cStr, Cond.stringRef RX11 q.1 q.2 ∈ lw_tbl := by decide +kernel
set_option maxRecDepth 100000 in
theorem lz_s2 : ∀ q ∈ cStr, Cond.exactly (.string RX11 q.1) "java/lang/String" ∈ flatC (Jvm.Cond.and given_1 narrow_1) := by decide +kernel
set_option maxRecDepth 100000 in
theorem lz_c : ∀ q ∈ cXC, Cond.castable q.1 q.2 ∈ lw_tbl := by decide +kernel
set_option maxRecDepth 100000 in
theorem lz_d : ∀ x ∈ cXD, Cond.declares x ∈ lw_tbl := by decide +kernel
set_option maxRecDepth 100000 in
theorem lz_nc : ∀ q ∈ cXN, Cond.not (.castable q.1 q.2) ∈ flatC (Jvm.Cond.and given_1 narrow_1) := by decide +kernel
set_option maxRecDepth 100000 in
theorem lz_m : ∀ q ∈ cXM, Cond.methodLinkNest q.1 q.2.1 q.2.2 "SearchMill" ∈ lw_tbl := by decide +kernel
set_option maxRecDepth 100000 in
theorem lz_mi : Cond.isRef (.mirror "[Ljava/lang/Object;") ∈ flatC (Jvm.Cond.and given_1 narrow_1) := by decide +kernel
abbrev lA (s : State) : Nat → Prop := fun q => s.heap.size ≤ q
theorem law_env {s : State} {b : Nat} (hts : ∀ w ∈ lw_tbl, w.before #[Value.ref b] s = true) (hgv : (Jvm.Cond.and given_1 narrow_1).before #[Value.ref b] s = true) : ∃ tp dp : Nat, cEnv (lA s) tp dp s s.heap := by
  have hs := flat_of_before _ hgv
  have hA : ∀ a : Nat, a < s.heap.size → ¬ lA s a := fun a h => Nat.not_le.mpr h
  obtain ⟨⟨n1, n2⟩, ⟨n3, n4⟩, n5, n6⟩ := lz_n1
  obtain ⟨t1, t2, t3, t4, t5, t6, t7, t8, t9⟩ := lz_t1
  obtain ⟨tp, e1, hT1⟩ := va_Tof (N := 12) (f := fun j => .long (lN (37 ^ j))) (A := lA s) (by decide) (hs _ n1) (c_eqi (hs _ n2)) (fun j hj => c_eql (hs _ (lz_pow j hj))) hA
  obtain ⟨dp, e2, hT2⟩ := va_Tof (N := 0) (f := fun _ => .null) (A := lA s) (by decide) (hs _ n3) (c_eqi (hs _ n4)) (fun j hj => absurd hj (Nat.not_lt_zero j)) hA
  refine ⟨tp, dp, va_Zof (hts _ t1) (hts _ t2) e1 hA, hT1, va_Zof (hts _ t3) (hts _ t4) e2 hA, hT2, vx_Zqof (hts _ t5) (hts _ t7) (hs _ n5) hA, vx_Zqof (hts _ t6) (hts _ t7) (hs _ n6) hA, fun q hq => ?_, fun q hq => va_Nw.of rfl (hts _ (lz_c q hq)), fun x hx => va_Nw.of rfl (hts _ (lz_d x hx)), fun q hq => va_Nc.of (hs _ (lz_nc q hq)), hts _ t8, ⟨va_AO.of (hts _ t9), va_Mi.of (hs _ lz_mi)⟩, fun q hq => va_Nw.of rfl (hts _ (lz_m q hq))⟩
  obtain ⟨sa, c, cell, k, he, -⟩ := Cond.exactly_spec (hs _ (lz_s2 q hq))
  exact ⟨sa, vk_R.of (hts _ (lz_s1 q hq)) he⟩
set_option maxRecDepth 100000 in
theorem lz_J0 : ∀ w ∈ wsJ00, w ∈ lw_tbl := by decide +kernel
set_option maxRecDepth 100000 in
theorem lz_J4 : ∀ w ∈ wsJ40, w ∈ lw_tbl := by decide +kernel
def lz_il : List Cond := [Cond.instantiable RJ0 4, Cond.instantiable RJ4 4, Cond.instantiable RJx4a65c 3, Cond.instantiable RX0 5, Cond.instantiable RX1 14, Cond.instantiable RX2 2, Cond.instantiable RX3 9, Cond.instantiable RX4 11, Cond.instantiable RX5 10, Cond.instantiable RX6 5, Cond.instantiable RX7 7, Cond.instantiable RX8 4, Cond.instantiable RX9 5, Cond.instantiable RX10 2, Cond.instantiable RX11 19]
set_option maxRecDepth 100000 in
theorem lz_in : ∀ w ∈ lz_il, w ∈ lw_tbl := by decide +kernel
set_option maxRecDepth 100000 in
theorem lz_ar : ∀ w ∈ ([.arrayClass .byte, .arrayClass .int, .arrayClass .long, .arrayClass .boolean] : List Cond), w ∈ lw_tbl := by decide +kernel
set_option maxHeartbeats 4000000 in
theorem law_K {s : State} {b : Nat} (hts : ∀ w ∈ lw_tbl, w.before #[Value.ref b] s = true) : ∃ (D : va_G) (Y : cY), va_K D vwCl (cTys Y) s := by
  obtain ⟨c0, i0, h0⟩ := u_known (C := RJ0) (T := TJ0) (N := 4) (n := 4) hts lz_J0 (hts _ (lz_in _ (List.mem_of_getElem? (l := lz_il) (i := 0) rfl)))
  obtain ⟨c1, i1, h1⟩ := u_known (C := RJ4) (T := TJ4) (N := 4) (n := 4) hts lz_J4 (hts _ (lz_in _ (List.mem_of_getElem? (l := lz_il) (i := 1) rfl)))
  obtain ⟨c2, i2, h2⟩ := u_known (C := RJx4a65c) (T := TJx4a65c) (N := 3) (n := 3) hts cWt_wsJx4a65c0 (hts _ (lz_in _ (List.mem_of_getElem? (l := lz_il) (i := 2) rfl)))
  obtain ⟨c3, i3, h3⟩ := u_known (C := RX0) (T := TX0) (N := 5) (n := 5) hts cWt_wsX00 (hts _ (lz_in _ (List.mem_of_getElem? (l := lz_il) (i := 3) rfl)))
  obtain ⟨c4, i4, h4⟩ := u_known (C := RX1) (T := TX1) (N := 14) (n := 14) hts cWt_wsX10 (hts _ (lz_in _ (List.mem_of_getElem? (l := lz_il) (i := 4) rfl)))
  obtain ⟨c5, i5, h5⟩ := u_known (C := RX2) (T := TX2) (N := 2) (n := 2) hts cWt_wsX20 (hts _ (lz_in _ (List.mem_of_getElem? (l := lz_il) (i := 5) rfl)))
  obtain ⟨c6, i6, h6⟩ := u_known (C := RX3) (T := TX3) (N := 9) (n := 9) hts cWt_wsX30 (hts _ (lz_in _ (List.mem_of_getElem? (l := lz_il) (i := 6) rfl)))
  obtain ⟨c7, i7, h7⟩ := u_known (C := RX4) (T := TX4) (N := 11) (n := 11) hts cWt_wsX40 (hts _ (lz_in _ (List.mem_of_getElem? (l := lz_il) (i := 7) rfl)))
  obtain ⟨c8, i8, h8⟩ := u_known (C := RX5) (T := TX5) (N := 10) (n := 10) hts cWt_wsX50 (hts _ (lz_in _ (List.mem_of_getElem? (l := lz_il) (i := 8) rfl)))
  obtain ⟨c9, i9, h9⟩ := u_known (C := RX6) (T := TX6) (N := 5) (n := 5) hts cWt_wsX60 (hts _ (lz_in _ (List.mem_of_getElem? (l := lz_il) (i := 9) rfl)))
  obtain ⟨c10, i10, h10⟩ := u_known (C := RX7) (T := TX7) (N := 7) (n := 7) hts cWt_wsX70 (hts _ (lz_in _ (List.mem_of_getElem? (l := lz_il) (i := 10) rfl)))
  obtain ⟨c11, i11, h11⟩ := u_known (C := RX8) (T := TX8) (N := 4) (n := 4) hts cWt_wsX80 (hts _ (lz_in _ (List.mem_of_getElem? (l := lz_il) (i := 11) rfl)))
  obtain ⟨c12, i12, h12⟩ := u_known (C := RX9) (T := TX9) (N := 5) (n := 5) hts cWt_wsX90 (hts _ (lz_in _ (List.mem_of_getElem? (l := lz_il) (i := 12) rfl)))
  obtain ⟨c13, i13, h13⟩ := u_known (C := RX10) (T := TX10) (N := 2) (n := 2) hts cWt_wsX100 (hts _ (lz_in _ (List.mem_of_getElem? (l := lz_il) (i := 13) rfl)))
  obtain ⟨c14, i14, h14⟩ := u_known (C := RX11) (T := TX11) (N := 19) (n := 19) hts cWt_wsX110 (hts _ (lz_in _ (List.mem_of_getElem? (l := lz_il) (i := 14) rfl)))
  obtain ⟨a0, k0, m0, f0, g0, z0⟩ := Cond.arrayClass_spec (hts _ (lz_ar _ (List.mem_of_getElem? (i := 0) rfl)))
  obtain ⟨a1, k1, m1, f1, g1, z1⟩ := Cond.arrayClass_spec (hts _ (lz_ar _ (List.mem_of_getElem? (i := 1) rfl)))
  obtain ⟨a2, k2, m2, f2, g2, z2⟩ := Cond.arrayClass_spec (hts _ (lz_ar _ (List.mem_of_getElem? (i := 2) rfl)))
  obtain ⟨a3, k3, m3, f3, g3, z3⟩ := Cond.arrayClass_spec (hts _ (lz_ar _ (List.mem_of_getElem? (i := 3) rfl)))
  obtain ⟨m4, a4, k4, f4, g4, y4, z4, w4⟩ := Cond.arrayOver_spec (hts _ lz_t1.2.2.2.2.2.2.2.2)
  obtain ⟨m5, a5, k5, f5, g5, y5, z5, w5⟩ := arrayOver_specB (hts _ lz_t1.2.2.2.2.2.2.2.1)
  refine ⟨(fun k => [c0, c1, c2, c3, c4, c5, c6, c7, c8, c9, c10, c11, c12, c13, c14].getD k c0, fun k => [i0, i1, i2, i3, i4, i5, i6, i7, i8, i9, i10, i11, i12, i13, i14].getD k i0), (a0, a1, a2, a3, a4, a5), fun k q hq => ?_, fun k q hq => ?_⟩
  · match k, hq with
    | 0, hq => cases hq; exact h0
    | 1, hq => cases hq; exact h1
    | 2, hq => cases hq; exact h2
    | 3, hq => cases hq; exact h3
    | 4, hq => cases hq; exact h4
    | 5, hq => cases hq; exact h5
    | 6, hq => cases hq; exact h6
    | 7, hq => cases hq; exact h7
    | 8, hq => cases hq; exact h8
    | 9, hq => cases hq; exact h9
    | 10, hq => cases hq; exact h10
    | 11, hq => cases hq; exact h11
    | 12, hq => cases hq; exact h12
    | 13, hq => cases hq; exact h13
    | 14, hq => cases hq; exact h14
    | k + 15, hq => simp [vwCl] at hq
  · match k, hq with
    | 0, hq => cases hq; exact ⟨fun N z => ⟨(fun q hq => by cases hq), k0, g0, m0, z0⟩, f0⟩
    | 1, hq => cases hq; exact ⟨fun N z => ⟨(fun q hq => by cases hq), k1, g1, m1, z1⟩, f1⟩
    | 2, hq => cases hq; exact ⟨fun N z => ⟨(fun q hq => by cases hq), k2, g2, m2, z2⟩, f2⟩
    | 3, hq => cases hq; exact ⟨fun N z => ⟨(fun q hq => by cases hq), k3, g3, m3, z3⟩, f3⟩
    | 4, hq => cases hq; exact ⟨fun N z => ⟨(fun q hq => by cases hq), k4, y4, m4, z4⟩, k4, m4, y4, z4, f4, w4⟩
    | 5, hq => cases hq; exact ⟨fun N z => ⟨(fun q hq => by cases hq), k5, y5, m5, z5⟩, w5⟩
    | k + 6, hq => simp at hq
