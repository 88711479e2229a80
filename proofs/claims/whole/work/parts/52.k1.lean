/-! the class, Text: figures and words -/
section CG3
variable {p : Program} {l : Launch} {e : Env} {s : State} {m : MethodId} {args : Array Value} {below : List Frame} {meth : Method} {c : Code} {cc : ByteArray} {nL : Nat} {ret : Option FieldType} {A : Nat → Prop} {D : va_G} {Y : cY} {tp dp : Nat} {own : String} {Q : State → Prop} {cells slots : Nat}
variable {pc : Nat} {lv : List (Nat × Value)} {st : List Value} {S : cS}
theorem cg_dosi (C : cC p s m args meth c cc nL ret A D Y tp dp own) {y : MethodName} {cc' : ByteArray} {nL' idx n fr lo F M N L : Nat} {ret' : Option FieldType} {As : List Value} {stk : List Value} {x : Int32} {u : cS} (hM : cMet (cQi (fun r_ u_ => r_ = x ∧ u_ = u)) l y cc' nL' ret' fr 0 0 lo As S) (hc : cCal true own idx y cc' nL' ret' n) (hn : As.length = n) (hR : fr + 1 ≤ F ∧ 8 + (nL' + 11) + lo ≤ L) (hm : cells ≤ M ∧ slots ≤ N) (hst : stk = As.reverse ++ st) (hsz : (st.map fun v => v.category).sum ≤ 8) (d : decode cc pc = .ok (.invokestatic idx, 3)) (kk : cG p l e (cRm F M N L) s m args below meth c A D Y nL Q cells slots (pc + 3) lv (.int x :: st) u) : cG p l e (cRm F M N L) s m args below meth c A D Y nL Q cells slots pc lv stk S := cg_callsi C hM hc hn hR hm hst hsz d (fun r S' h => by
    obtain ⟨rfl, rfl⟩ := h
    exact kk)
theorem cg_dosl (C : cC p s m args meth c cc nL ret A D Y tp dp own) {y : MethodName} {cc' : ByteArray} {nL' idx n fr lo F M N L : Nat} {ret' : Option FieldType} {As : List Value} {stk : List Value} {x : Int64} {u : cS} (hM : cMet (cQl (fun r_ u_ => r_ = x ∧ u_ = u)) l y cc' nL' ret' fr 0 0 lo As S) (hc : cCal true own idx y cc' nL' ret' n) (hn : As.length = n) (hR : fr + 1 ≤ F ∧ 8 + (nL' + 11) + lo ≤ L) (hm : cells ≤ M ∧ slots ≤ N) (hst : stk = As.reverse ++ st) (hsz : (st.map fun v => v.category).sum ≤ 8) (d : decode cc pc = .ok (.invokestatic idx, 3)) (kk : cG p l e (cRm F M N L) s m args below meth c A D Y nL Q cells slots (pc + 3) lv (.long x :: st) u) : cG p l e (cRm F M N L) s m args below meth c A D Y nL Q cells slots pc lv stk S := cg_callsl C hM hc hn hR hm hst hsz d (fun r S' h => by
    obtain ⟨rfl, rfl⟩ := h
    exact kk)
end CG3
/-- a figure of a word at a place, 0 out of the twelve -/
def dgX (w : Nat) (x : Int32) : Nat := if x < 0 then 0 else if x.toNatClampNeg < 12 then dg w x.toNatClampNeg else 0
theorem figN_d {x : Nat} (h : 48 ≤ x) (h2 : x ≤ 57) : figN x = x - 48 + 1 := by unfold figN inN; simp [h, h2]
theorem figN_s {x : Nat} (h : 97 ≤ x) (h2 : x ≤ 122) : figN x = x - 97 + 11 := by
  unfold figN inN
  have e1 : ¬ x ≤ 57 := by omega
  simp [h, h2, e1]
theorem figN_c {x : Nat} (h : 65 ≤ x) (h2 : x ≤ 90) : figN x = x - 65 + 11 := by
  unfold figN inN
  have e1 : ¬ x ≤ 57 := by omega
  have e2 : ¬ 97 ≤ x := by omega
  simp [h, h2, e1, e2]
theorem figN_z {x : Nat} (h1 : x < 48 ∨ 57 < x) (h2 : x < 97 ∨ 122 < x) (h3 : x < 65 ∨ 90 < x) : figN x = 0 := by
  unfold figN inN
  rw [if_neg (by simp; omega), if_neg (by simp; omega), if_neg (by simp; omega)]
set_option maxHeartbeats 4000000 in
set_option maxRecDepth 100000 in
theorem k_X9_digitOf (l : Launch) (S : cS) (x : Nat) (hx : x < 65536) : cMet (cQi (fun r_ u_ => r_ = nI (figN x) ∧ u_ = S)) l yX9_digitOf cX9_digitOf 1 (some .int) 0 0 0 0 [.int (nI x)] S := by
  intro D Y tp dp sz
  refine cg_body (by decide +kernel) (Nat.le_of_ble_eq_true rfl) ?_
  intro p e s m args below meth c C
  generalize va_A (cWd Y S) sz = A at C ⊢
  have C : cC p s m args meth c cX9_digitOf 1 (some .int) A D Y tp dp RX9 := C
  refine cg_lv (lv' := [(0, .int (nI x))]) rfl ?_
  refine cg_iload_n C (i := 0) rfl 0 rfl dX9_digitOf_0 ?_
  refine cg_bipush C (x := nI 48) rfl dX9_digitOf_1 ?_
  refine cg_icmp_ltN C (by omega) (by omega) 19 (by decide) dX9_digitOf_3 (fun c_3 => ?_) (fun c_3 => ?_)
  · refine cg_iload_n C (i := 0) rfl 0 rfl dX9_digitOf_19 ?_
    refine cg_bipush C (x := nI 97) rfl dX9_digitOf_20 ?_
    refine cg_icmp_ltN C (by omega) (by omega) 39 (by decide) dX9_digitOf_22 (fun c_22 => ?_) (fun c_22 => ?_)
    · refine cg_iload_n C (i := 0) rfl 0 rfl dX9_digitOf_39 ?_
      refine cg_bipush C (x := nI 65) rfl dX9_digitOf_40 ?_
      refine cg_icmp_ltN C (by omega) (by omega) 59 (by decide) dX9_digitOf_42 (fun c_42 => ?_) (fun c_42 => ?_)
      · refine cg_iconst C (x := nI 0) rfl dX9_digitOf_59 ?_
        exact cg_iret C ⟨congrArg nI (figN_z (by omega) (by omega) (by omega)).symm, rfl⟩ dX9_digitOf_60 (by decide) (by decide)
      · refine cg_iload_n C (i := 0) rfl 0 rfl dX9_digitOf_45 ?_
        refine cg_bipush C (x := nI 90) rfl dX9_digitOf_46 ?_
        refine cg_icmp_gtN C (by omega) (by omega) 59 (by decide) dX9_digitOf_48 (fun c_48 => ?_) (fun c_48 => ?_)
        · refine cg_iconst C (x := nI 0) rfl dX9_digitOf_59 ?_
          exact cg_iret C ⟨congrArg nI (figN_z (by omega) (by omega) (by omega)).symm, rfl⟩ dX9_digitOf_60 (by decide) (by decide)
        · refine cg_iload_n C (i := 0) rfl 0 rfl dX9_digitOf_51 ?_
          refine cg_bipush C (x := nI 65) rfl dX9_digitOf_52 ?_
          refine cg_isubN C (by omega) dX9_digitOf_54 ?_
          refine cg_bipush C (x := nI 11) rfl dX9_digitOf_55 ?_
          refine cg_iaddN C dX9_digitOf_57 ?_
          exact cg_iret C ⟨congrArg nI (figN_c c_42 c_48).symm, rfl⟩ dX9_digitOf_58 (by decide) (by decide)
    · refine cg_iload_n C (i := 0) rfl 0 rfl dX9_digitOf_25 ?_
      refine cg_bipush C (x := nI 122) rfl dX9_digitOf_26 ?_
      refine cg_icmp_gtN C (by omega) (by omega) 39 (by decide) dX9_digitOf_28 (fun c_28 => ?_) (fun c_28 => ?_)
      · refine cg_iload_n C (i := 0) rfl 0 rfl dX9_digitOf_39 ?_
        refine cg_bipush C (x := nI 65) rfl dX9_digitOf_40 ?_
        refine cg_icmp_ltN C (by omega) (by omega) 59 (by decide) dX9_digitOf_42 (fun c_42 => ?_) (fun c_42 => ?_)
        · refine cg_iconst C (x := nI 0) rfl dX9_digitOf_59 ?_
          exact cg_iret C ⟨congrArg nI (figN_z (by omega) (by omega) (by omega)).symm, rfl⟩ dX9_digitOf_60 (by decide) (by decide)
        · refine cg_iload_n C (i := 0) rfl 0 rfl dX9_digitOf_45 ?_
          refine cg_bipush C (x := nI 90) rfl dX9_digitOf_46 ?_
          refine cg_icmp_gtN C (by omega) (by omega) 59 (by decide) dX9_digitOf_48 (fun c_48 => ?_) (fun c_48 => ?_)
          · refine cg_iconst C (x := nI 0) rfl dX9_digitOf_59 ?_
            exact cg_iret C ⟨congrArg nI (figN_z (by omega) (by omega) (by omega)).symm, rfl⟩ dX9_digitOf_60 (by decide) (by decide)
          · refine cg_iload_n C (i := 0) rfl 0 rfl dX9_digitOf_51 ?_
            refine cg_bipush C (x := nI 65) rfl dX9_digitOf_52 ?_
            refine cg_isubN C (by omega) dX9_digitOf_54 ?_
            refine cg_bipush C (x := nI 11) rfl dX9_digitOf_55 ?_
            refine cg_iaddN C dX9_digitOf_57 ?_
            exact cg_iret C ⟨congrArg nI (figN_c c_42 c_48).symm, rfl⟩ dX9_digitOf_58 (by decide) (by decide)
      · refine cg_iload_n C (i := 0) rfl 0 rfl dX9_digitOf_31 ?_
        refine cg_bipush C (x := nI 97) rfl dX9_digitOf_32 ?_
        refine cg_isubN C (by omega) dX9_digitOf_34 ?_
        refine cg_bipush C (x := nI 11) rfl dX9_digitOf_35 ?_
        refine cg_iaddN C dX9_digitOf_37 ?_
        exact cg_iret C ⟨congrArg nI (figN_s c_22 c_28).symm, rfl⟩ dX9_digitOf_38 (by decide) (by decide)
  · refine cg_iload_n C (i := 0) rfl 0 rfl dX9_digitOf_6 ?_
    refine cg_bipush C (x := nI 57) rfl dX9_digitOf_7 ?_
    refine cg_icmp_gtN C (by omega) (by omega) 19 (by decide) dX9_digitOf_9 (fun c_9 => ?_) (fun c_9 => ?_)
    · refine cg_iload_n C (i := 0) rfl 0 rfl dX9_digitOf_19 ?_
      refine cg_bipush C (x := nI 97) rfl dX9_digitOf_20 ?_
      refine cg_icmp_ltN C (by omega) (by omega) 39 (by decide) dX9_digitOf_22 (fun c_22 => ?_) (fun c_22 => ?_)
      · refine cg_iload_n C (i := 0) rfl 0 rfl dX9_digitOf_39 ?_
        refine cg_bipush C (x := nI 65) rfl dX9_digitOf_40 ?_
        refine cg_icmp_ltN C (by omega) (by omega) 59 (by decide) dX9_digitOf_42 (fun c_42 => ?_) (fun c_42 => ?_)
        · refine cg_iconst C (x := nI 0) rfl dX9_digitOf_59 ?_
          exact cg_iret C ⟨congrArg nI (figN_z (by omega) (by omega) (by omega)).symm, rfl⟩ dX9_digitOf_60 (by decide) (by decide)
        · refine cg_iload_n C (i := 0) rfl 0 rfl dX9_digitOf_45 ?_
          refine cg_bipush C (x := nI 90) rfl dX9_digitOf_46 ?_
          refine cg_icmp_gtN C (by omega) (by omega) 59 (by decide) dX9_digitOf_48 (fun c_48 => ?_) (fun c_48 => ?_)
          · refine cg_iconst C (x := nI 0) rfl dX9_digitOf_59 ?_
            exact cg_iret C ⟨congrArg nI (figN_z (by omega) (by omega) (by omega)).symm, rfl⟩ dX9_digitOf_60 (by decide) (by decide)
          · refine cg_iload_n C (i := 0) rfl 0 rfl dX9_digitOf_51 ?_
            refine cg_bipush C (x := nI 65) rfl dX9_digitOf_52 ?_
            refine cg_isubN C (by omega) dX9_digitOf_54 ?_
            refine cg_bipush C (x := nI 11) rfl dX9_digitOf_55 ?_
            refine cg_iaddN C dX9_digitOf_57 ?_
            exact cg_iret C ⟨congrArg nI (figN_c c_42 c_48).symm, rfl⟩ dX9_digitOf_58 (by decide) (by decide)
      · refine cg_iload_n C (i := 0) rfl 0 rfl dX9_digitOf_25 ?_
        refine cg_bipush C (x := nI 122) rfl dX9_digitOf_26 ?_
        refine cg_icmp_gtN C (by omega) (by omega) 39 (by decide) dX9_digitOf_28 (fun c_28 => ?_) (fun c_28 => ?_)
        · refine cg_iload_n C (i := 0) rfl 0 rfl dX9_digitOf_39 ?_
          refine cg_bipush C (x := nI 65) rfl dX9_digitOf_40 ?_
          refine cg_icmp_ltN C (by omega) (by omega) 59 (by decide) dX9_digitOf_42 (fun c_42 => ?_) (fun c_42 => ?_)
          · refine cg_iconst C (x := nI 0) rfl dX9_digitOf_59 ?_
            exact cg_iret C ⟨congrArg nI (figN_z (by omega) (by omega) (by omega)).symm, rfl⟩ dX9_digitOf_60 (by decide) (by decide)
          · refine cg_iload_n C (i := 0) rfl 0 rfl dX9_digitOf_45 ?_
            refine cg_bipush C (x := nI 90) rfl dX9_digitOf_46 ?_
            refine cg_icmp_gtN C (by omega) (by omega) 59 (by decide) dX9_digitOf_48 (fun c_48 => ?_) (fun c_48 => ?_)
            · refine cg_iconst C (x := nI 0) rfl dX9_digitOf_59 ?_
              exact cg_iret C ⟨congrArg nI (figN_z (by omega) (by omega) (by omega)).symm, rfl⟩ dX9_digitOf_60 (by decide) (by decide)
            · refine cg_iload_n C (i := 0) rfl 0 rfl dX9_digitOf_51 ?_
              refine cg_bipush C (x := nI 65) rfl dX9_digitOf_52 ?_
              refine cg_isubN C (by omega) dX9_digitOf_54 ?_
              refine cg_bipush C (x := nI 11) rfl dX9_digitOf_55 ?_
              refine cg_iaddN C dX9_digitOf_57 ?_
              exact cg_iret C ⟨congrArg nI (figN_c c_42 c_48).symm, rfl⟩ dX9_digitOf_58 (by decide) (by decide)
        · refine cg_iload_n C (i := 0) rfl 0 rfl dX9_digitOf_31 ?_
          refine cg_bipush C (x := nI 97) rfl dX9_digitOf_32 ?_
          refine cg_isubN C (by omega) dX9_digitOf_34 ?_
          refine cg_bipush C (x := nI 11) rfl dX9_digitOf_35 ?_
          refine cg_iaddN C dX9_digitOf_37 ?_
          exact cg_iret C ⟨congrArg nI (figN_s c_22 c_28).symm, rfl⟩ dX9_digitOf_38 (by decide) (by decide)
    · refine cg_iload_n C (i := 0) rfl 0 rfl dX9_digitOf_12 ?_
      refine cg_bipush C (x := nI 48) rfl dX9_digitOf_13 ?_
      refine cg_isubN C (by omega) dX9_digitOf_15 ?_
      refine cg_iconst C (x := nI 1) rfl dX9_digitOf_16 ?_
      refine cg_iaddN C dX9_digitOf_17 ?_
      exact cg_iret C ⟨congrArg nI (figN_d c_3 c_9).symm, rfl⟩ dX9_digitOf_18 (by decide) (by decide)
set_option maxHeartbeats 4000000 in
set_option maxRecDepth 100000 in
theorem k_X9_digitAt (l : Launch) (S : cS) (w : Nat) (k : Nat) (hw : w < 2 ^ 63) (hk : k < 2 ^ 31) : cMet (cQi (fun r_ u_ => r_ = nI (if k < 12 then dg w k else 0) ∧ u_ = S)) l yX9_digitAt cX9_digitAt 3 (some .int) 0 0 0 0 [.long (lN w), .int (nI k)] S := by
  intro D Y tp dp sz
  refine cg_body (by decide +kernel) (Nat.le_of_ble_eq_true rfl) ?_
  intro p e s m args below meth c C
  generalize va_A (cWd Y S) sz = A at C ⊢
  have C : cC p s m args meth c cX9_digitAt 3 (some .int) A D Y tp dp RX9 := C
  refine cg_lv (lv' := [(0, .long (lN w)), (2, .int (nI k))]) rfl ?_
  refine cg_iload_n C (i := 2) rfl 1 rfl dX9_digitAt_0 ?_
  refine cg_if_ltN C (by omega) 10 (by decide) dX9_digitAt_1 ?_
  refine cg_iload_n C (i := 2) rfl 1 rfl dX9_digitAt_4 ?_
  refine cg_bipush C (x := nI 12) rfl dX9_digitAt_5 ?_
  refine cg_icmp_ltN C (by omega) (by omega) 12 (by decide) dX9_digitAt_7 (fun c_7 => ?_) (fun c_7 => ?_)
  · refine cg_lload_n C (i := 0) rfl 0 rfl dX9_digitAt_12 ?_
    refine cg_powers C cl_pow dX9_digitAt_13 ?_
    refine cg_bipush C (x := nI 11) rfl dX9_digitAt_16 ?_
    refine cg_iload_n C (i := 2) rfl 1 rfl dX9_digitAt_18 ?_
    refine cg_isubN C (by omega) dX9_digitAt_19 ?_
    refine cg_power C (11 - k) (by omega) dX9_digitAt_20 ?_
    refine cg_ldiv C (fun q => absurd ((pk_lEQ (p37_lt (by omega)) (by decide)).mp (q.trans (show (0 : Int64) = lN 0 from rfl))) (Nat.ne_of_gt (p37_pos _))) dX9_digitAt_21 ?_
    refine cg_cast (.long (lN (w / 37 ^ (11 - k)))) (congrArg Value.long (pk_lDiv hw (p37_pos _) (p37_lt (by omega)))) ?_
    refine cg_ldc2 C (x := 37) ck_X9_53 dX9_digitAt_22 ?_
    refine cg_lrem C (by decide) dX9_digitAt_25 ?_
    refine cg_cast (.long (lN (w / 37 ^ (11 - k) % 37))) (congrArg Value.long (pk_lRem (Nat.lt_of_le_of_lt (Nat.div_le_self _ _) hw) (by decide) (by decide))) ?_
    refine cg_l2i C dX9_digitAt_26 ?_
    refine cg_cast (.int (nI (dg w k))) (congrArg Value.int (lN_i _)) ?_
    exact cg_iret C ⟨by rw [if_pos (by omega)], rfl⟩ dX9_digitAt_27 (by decide) (by decide)
  · refine cg_iconst C (x := nI 0) rfl dX9_digitAt_10 ?_
    exact cg_iret C ⟨by rw [if_neg (by omega)], rfl⟩ dX9_digitAt_11 (by decide) (by decide)
set_option maxHeartbeats 4000000 in
set_option maxRecDepth 100000 in
theorem k_X9_lengthOf (l : Launch) (S : cS) (w : Nat) (hw : w < 2 ^ 63) : cMet (cQi (fun r_ u_ => r_ = nI (lnW w) ∧ u_ = S)) l yX9_lengthOf cX9_lengthOf 3 (some .int) 1 0 0 22 [.long (lN w)] S := by
  intro D Y tp dp sz
  refine cg_body (by decide +kernel) (Nat.le_of_ble_eq_true rfl) ?_
  intro p e s m args below meth c C
  generalize va_A (cWd Y S) sz = A at C ⊢
  have C : cC p s m args meth c cX9_lengthOf 3 (some .int) A D Y tp dp RX9 := C
  refine cg_lv (lv' := [(0, .long (lN w))]) rfl ?_
  refine cg_iconst C (x := nI 0) rfl dX9_lengthOf_0 ?_
  refine cg_istore_n C (i := 2) (lv' := [(2, .int (nI 0)), (0, .long (lN w))]) rfl (Nat.le_of_ble_eq_true rfl) rfl dX9_lengthOf_1 ?_
  refine cg_loop (X := Nat) (fun y_ => (y_ ≤ 12) ∧ (∀ j, j < y_ → 0 < dg w j)) (fun y_ => 12 - y_) (fun y_ => [(0, .long (lN w)), (2, .int (nI y_))]) (fun y_ => S) 0 [1, 0] rfl rfl ⟨by omega, fun j h => absurd h (Nat.not_lt_zero j)⟩ ?_
  rintro n hI_ ih_2
  try dsimp only at hI_ ih_2 ⊢
  obtain ⟨hn, hd⟩ := hI_
  refine cg_iload_n C (i := 2) rfl 1 rfl dX9_lengthOf_2 ?_
  refine cg_bipush C (x := nI 12) rfl dX9_lengthOf_3 ?_
  refine cg_icmp_geN C (by omega) (by omega) 22 (by decide) dX9_lengthOf_5 (fun c_5 => ?_) (fun c_5 => ?_)
  · refine cg_iload_n C (i := 2) rfl 1 rfl dX9_lengthOf_22 ?_
    exact cg_iret C ⟨congrArg nI (lnW_eq hn hd (fun q => by first | omega | exact c_13)).symm, rfl⟩ dX9_lengthOf_23 (by decide) (by decide)
  · refine cg_lload_n C (i := 0) rfl 0 rfl dX9_lengthOf_8 ?_
    refine cg_iload_n C (i := 2) rfl 1 rfl dX9_lengthOf_9 ?_
    refine cg_dosi C (k_X9_digitAt l S w n (by omega) (by omega)) cc_X9_55 rfl ⟨by decide, by decide⟩ ⟨by decide, by decide⟩ rfl (Nat.le_of_ble_eq_true rfl) dX9_lengthOf_10 ?_
    refine cg_cast (.int (nI (dg w n))) (congrArg Value.int (by rw [if_pos (by omega)])) ?_
    refine cg_if_eqN C (Nat.lt_trans (dg_lt _ _) (by decide)) 22 (by decide) dX9_lengthOf_13 (fun c_13 => ?_) (fun c_13 => ?_)
    · refine cg_iload_n C (i := 2) rfl 1 rfl dX9_lengthOf_22 ?_
      exact cg_iret C ⟨congrArg nI (lnW_eq hn hd (fun q => by first | omega | exact c_13)).symm, rfl⟩ dX9_lengthOf_23 (by decide) (by decide)
    · refine cg_iincN C (lv' := [(2, .int (nI (n + 1))), (0, .long (lN w))]) 1 1 rfl rfl (Nat.le_of_ble_eq_true rfl) rfl dX9_lengthOf_16 ?_
      refine cg_goto C 2 (by decide) dX9_lengthOf_19 ?_
      exact cg_sub [1, 0] rfl (ih_2 (n + 1) ⟨by omega, fun j h => by
            rcases Nat.lt_or_ge j n with q | q
            · exact hd j q
            · have : j = n := by omega
              subst this; exact c_13⟩ (by omega))
set_option maxHeartbeats 4000000 in
set_option maxRecDepth 100000 in
theorem k_X9_withDigit (l : Launch) (S : cS) (w : Nat) (k : Nat) (x : Nat) (hk : k < 2 ^ 31) (hx : x < 37) : cMet (cQl (fun r_ u_ => r_ = lN (if k < 12 then w + x * 37 ^ (11 - k) else w) ∧ u_ = S)) l yX9_withDigit cX9_withDigit 4 (some .long) 0 0 0 0 [.long (lN w), .int (nI k), .int (nI x)] S := by
  intro D Y tp dp sz
  refine cg_body (by decide +kernel) (Nat.le_of_ble_eq_true rfl) ?_
  intro p e s m args below meth c C
  generalize va_A (cWd Y S) sz = A at C ⊢
  have C : cC p s m args meth c cX9_withDigit 4 (some .long) A D Y tp dp RX9 := C
  refine cg_lv (lv' := [(0, .long (lN w)), (2, .int (nI k)), (3, .int (nI x))]) rfl ?_
  refine cg_iload_n C (i := 2) rfl 1 rfl dX9_withDigit_0 ?_
  refine cg_if_ltN C (by omega) 10 (by decide) dX9_withDigit_1 ?_
  refine cg_iload_n C (i := 2) rfl 1 rfl dX9_withDigit_4 ?_
  refine cg_bipush C (x := nI 12) rfl dX9_withDigit_5 ?_
  refine cg_icmp_ltN C (by omega) (by omega) 14 (by decide) dX9_withDigit_7 (fun c_7 => ?_) (fun c_7 => ?_)
  · refine cg_lload_n C (i := 0) rfl 0 rfl dX9_withDigit_14 ?_
    refine cg_iload_n C (i := 3) rfl 2 rfl dX9_withDigit_15 ?_
    refine cg_i2l C dX9_withDigit_16 ?_
    refine cg_powers C cl_pow dX9_withDigit_17 ?_
    refine cg_bipush C (x := nI 11) rfl dX9_withDigit_20 ?_
    refine cg_iload_n C (i := 2) rfl 1 rfl dX9_withDigit_22 ?_
    refine cg_isubN C (by omega) dX9_withDigit_23 ?_
    refine cg_power C (11 - k) (by omega) dX9_withDigit_24 ?_
    refine cg_cast (.long (lN (37 ^ (11 - k)))) rfl ?_
    refine cg_lmul C dX9_withDigit_25 ?_
    refine cg_cast (.long (lN (x * 37 ^ (11 - k)))) (congrArg Value.long (by rw [nI_l (by omega), lN_mul])) ?_
    refine cg_ladd C dX9_withDigit_26 ?_
    refine cg_cast (.long (lN (w + x * 37 ^ (11 - k)))) (congrArg Value.long (lN_add _ _)) ?_
    exact cg_lret C (by first | exact ⟨congrArg lN (if_pos (by omega)).symm, rfl⟩ | exact ⟨congrArg lN (if_neg (by omega)).symm, rfl⟩) dX9_withDigit_27 (by decide) (by decide)
  · refine cg_lload_n C (i := 0) rfl 0 rfl dX9_withDigit_10 ?_
    refine cg_goto C 27 (by decide) dX9_withDigit_11 ?_
    refine cg_cast (.long (lN w)) rfl ?_
    exact cg_lret C (by first | exact ⟨congrArg lN (if_pos (by omega)).symm, rfl⟩ | exact ⟨congrArg lN (if_neg (by omega)).symm, rfl⟩) dX9_withDigit_27 (by decide) (by decide)
set_option maxHeartbeats 4000000 in
set_option maxRecDepth 100000 in
theorem k_X9_cutTo (l : Launch) (S : cS) (w : Nat) (n : Nat) (hw : w < 2 ^ 63) (h1 : 1 ≤ n) (h2 : n ≤ 12) : cMet (cQl (fun r_ u_ => r_ = lN (cutW w n) ∧ u_ = S)) l yX9_cutTo cX9_cutTo 3 (some .long) 0 0 0 0 [.long (lN w), .int (nI n)] S := by
  intro D Y tp dp sz
  refine cg_body (by decide +kernel) (Nat.le_of_ble_eq_true rfl) ?_
  intro p e s m args below meth c C
  generalize va_A (cWd Y S) sz = A at C ⊢
  have C : cC p s m args meth c cX9_cutTo 3 (some .long) A D Y tp dp RX9 := C
  refine cg_lv (lv' := [(0, .long (lN w)), (2, .int (nI n))]) rfl ?_
  refine cg_iload_n C (i := 2) rfl 1 rfl dX9_cutTo_0 ?_
  refine cg_iconst C (x := nI 1) rfl dX9_cutTo_1 ?_
  refine cg_icmp_ltN C (by omega) (by omega) 11 (by decide) dX9_cutTo_2 (fun c_2 => ?_) (fun c_2 => ?_)
  · exact absurd c_2 (by omega)
  · refine cg_iload_n C (i := 2) rfl 1 rfl dX9_cutTo_5 ?_
    refine cg_bipush C (x := nI 12) rfl dX9_cutTo_6 ?_
    refine cg_icmp_leN C (by omega) (by omega) 13 (by decide) dX9_cutTo_8 (fun c_8 => ?_) (fun c_8 => ?_)
    · refine cg_lload_n C (i := 0) rfl 0 rfl dX9_cutTo_13 ?_
      refine cg_lload_n C (i := 0) rfl 0 rfl dX9_cutTo_14 ?_
      refine cg_powers C cl_pow dX9_cutTo_15 ?_
      refine cg_bipush C (x := nI 12) rfl dX9_cutTo_18 ?_
      refine cg_iload_n C (i := 2) rfl 1 rfl dX9_cutTo_20 ?_
      refine cg_isubN C (by omega) dX9_cutTo_21 ?_
      refine cg_power C (12 - n) (by omega) dX9_cutTo_22 ?_
      refine cg_lrem C (fun q => absurd ((pk_lEQ (p37_lt (by omega)) (by decide)).mp (q.trans (show (0 : Int64) = lN 0 from rfl))) (Nat.ne_of_gt (p37_pos _))) dX9_cutTo_23 ?_
      refine cg_cast (.long (lN (w % 37 ^ (12 - n)))) (congrArg Value.long (pk_lRem hw (p37_pos _) (p37_lt (by omega)))) ?_
      refine cg_lsub C dX9_cutTo_24 ?_
      refine cg_cast (.long (lN (cutW w n))) (congrArg Value.long (by rw [lN_sub (Nat.mod_le _ _), cutW]; congr 1; have := Nat.div_add_mod w (37 ^ (12 - n)); rw [Nat.mul_comm] at this; omega)) ?_
      exact cg_lret C ⟨rfl, rfl⟩ dX9_cutTo_25 (by decide) (by decide)
    · exact absurd c_8 (by omega)
