/-! the pool behind steps: members, kinds, fields, rows -/
theorem cm_a {S : cS} {q k n : Nat} : q ∈ cL (cNewA S q k n) := List.mem_append_right _ List.mem_cons_self
theorem cm_o {S : cS} {q k : Nat} : q ∈ cL (cNew S q k) := List.mem_append_right _ List.mem_cons_self
theorem cm_A {S : cS} {a q k n : Nat} (h : a ∈ cL S) : a ∈ cL (cNewA S q k n) := List.mem_append_left _ h
theorem cm_O {S : cS} {a q k : Nat} (h : a ∈ cL S) : a ∈ cL (cNew S q k) := List.mem_append_left _ h
theorem cm_ne {S : cS} {a q : Nat} (h : a ∈ cL S) (hq : q ∉ cL S) : a ≠ q := fun e => hq (e ▸ h)
theorem cn_ni {S : cS} {a q k n : Nat} (h : a ∉ cL (cNewA S q k n)) : a ∉ cL S := fun e => h (cm_A e)
theorem cn_no {S : cS} {a q k : Nat} (h : a ∉ cL (cNew S q k)) : a ∉ cL S := fun e => h (cm_O e)
theorem ck_a {S : cS} {q k n : Nat} : cK (cNewA S q k n) q = k := upR_s
theorem ck_o {S : cS} {q k : Nat} : cK (cNew S q k) q = k := upR_s
theorem ck_A {S : cS} {a q k n k' : Nat} (hn : a ≠ q) (h : cK S a = k') : cK (cNewA S q k n) a = k' := (upR_n hn).trans h
theorem ck_O {S : cS} {a q k k' : Nat} (hn : a ≠ q) (h : cK S a = k') : cK (cNew S q k) a = k' := (upR_n hn).trans h
theorem cln_a {S : cS} {q k n : Nat} : cn (cNewA S q k n) q = n := upR_s
theorem cln_A {S : cS} {a q k n n' : Nat} (hn : a ≠ q) (h : cn S a = n') : cn (cNewA S q k n) a = n' := (upR_n hn).trans h
theorem ci_s {S : cS} {q a : Nat} {x : Int32} : ci (cSi S q a x) q a = x := mU_at
theorem ci_q {S : cS} {q p a b : Nat} {x y : Int32} (h : p ≠ q) (e : ci S p b = y) : ci (cSi S q a x) p b = y := (mU_nq h).trans e
theorem ci_n {S : cS} {q p a b : Nat} {x y : Int32} (h : b ≠ a) (e : ci S p b = y) : ci (cSi S q a x) p b = y := (mU_ne h).trans e
theorem ci_o {S : cS} {q a k : Nat} : ci (cNew S a k) q a = 0 := if_pos rfl
theorem ci_O {S : cS} {q a b k : Nat} {y : Int32} (h : b ≠ a) (e : ci S q b = y) : ci (cNew S a k) q b = y := (if_neg h).trans e
theorem cr_s {S : cS} {q a : Nat} {x : Option Nat} : cr (cSr S q a x) q a = x := mU_at
theorem cr_q {S : cS} {q p a b : Nat} {x y : Option Nat} (h : p ≠ q) (e : cr S p b = y) : cr (cSr S q a x) p b = y := (mU_nq h).trans e
theorem cr_n {S : cS} {q p a b : Nat} {x y : Option Nat} (h : b ≠ a) (e : cr S p b = y) : cr (cSr S q a x) p b = y := (mU_ne h).trans e
theorem cr_o {S : cS} {q a k : Nat} : cr (cNew S a k) q a = none := if_pos rfl
theorem cr_O {S : cS} {q a b k : Nat} {y : Option Nat} (h : b ≠ a) (e : cr S q b = y) : cr (cNew S a k) q b = y := (if_neg h).trans e
theorem cw_s {S : cS} {q a : Nat} {x : Int64} : cw (cSw S q a x) q a = x := mU_at
theorem cw_q {S : cS} {q p a b : Nat} {x y : Int64} (h : p ≠ q) (e : cw S p b = y) : cw (cSw S q a x) p b = y := (mU_nq h).trans e
theorem cw_n {S : cS} {q p a b : Nat} {x y : Int64} (h : b ≠ a) (e : cw S p b = y) : cw (cSw S q a x) p b = y := (mU_ne h).trans e
theorem cw_o {S : cS} {q a k : Nat} : cw (cNew S a k) q a = 0 := if_pos rfl
theorem cw_O {S : cS} {q a b k : Nat} {y : Int64} (h : b ≠ a) (e : cw S q b = y) : cw (cNew S a k) q b = y := (if_neg h).trans e
theorem cI_s {S : cS} {b k : Nat} {x : Int32} : cI (cSI S b k x) b = upR (cI S b) k x := mU_s
theorem cI_e {S : cS} {b k : Nat} {x : Int32} {f : Nat → Int32} (e : cI S b = f) : cI (cSI S b k x) b = upR f k x := by rw [cI_s, e]
theorem cI_n {S : cS} {b k d : Nat} {x : Int32} {f : Nat → Int32} (h : d ≠ b) (e : cI S d = f) : cI (cSI S b k x) d = f := (mU_n h).trans e
theorem cI_a {S : cS} {q k n : Nat} : cI (cNewA S q k n) q = fun _ => 0 := upR_s
theorem cI_A {S : cS} {d q k n : Nat} {f : Nat → Int32} (h : d ≠ q) (e : cI S d = f) : cI (cNewA S q k n) d = f := (upR_n h).trans e
theorem cJ_s {S : cS} {b k : Nat} {x : Int64} : cJ (cSJ S b k x) b = upR (cJ S b) k x := mU_s
theorem cJ_e {S : cS} {b k : Nat} {x : Int64} {f : Nat → Int64} (e : cJ S b = f) : cJ (cSJ S b k x) b = upR f k x := by rw [cJ_s, e]
theorem cJ_n {S : cS} {b k d : Nat} {x : Int64} {f : Nat → Int64} (h : d ≠ b) (e : cJ S d = f) : cJ (cSJ S b k x) d = f := (mU_n h).trans e
theorem cJ_a {S : cS} {q k n : Nat} : cJ (cNewA S q k n) q = fun _ => 0 := upR_s
theorem cJ_A {S : cS} {d q k n : Nat} {f : Nat → Int64} (h : d ≠ q) (e : cJ S d = f) : cJ (cNewA S q k n) d = f := (upR_n h).trans e
theorem cO_s {S : cS} {b k : Nat} {x : Option Nat} : cO (cSO S b k x) b = upR (cO S b) k x := mU_s
theorem cO_e {S : cS} {b k : Nat} {x : Option Nat} {f : Nat → Option Nat} (e : cO S b = f) : cO (cSO S b k x) b = upR f k x := by rw [cO_s, e]
theorem cO_n {S : cS} {b k d : Nat} {x : Option Nat} {f : Nat → Option Nat} (h : d ≠ b) (e : cO S d = f) : cO (cSO S b k x) d = f := (mU_n h).trans e
theorem cO_a {S : cS} {q k n : Nat} : cO (cNewA S q k n) q = fun _ => none := upR_s
theorem cO_A {S : cS} {d q k n : Nat} {f : Nat → Option Nat} (h : d ≠ q) (e : cO S d = f) : cO (cNewA S q k n) d = f := (upR_n h).trans e
set_option maxRecDepth 20000 in
theorem ca_int : Cond.arrayClass .int ∈ cWs := cWs_i0 4 rfl
set_option maxRecDepth 20000 in
theorem ca_long : Cond.arrayClass .long ∈ cWs := cWs_i0 7 rfl
set_option maxRecDepth 20000 in
theorem ca_boolean : Cond.arrayClass .boolean ∈ cWs := cWs_i2 58 rfl
set_option maxRecDepth 20000 in
theorem ca_byte : Cond.arrayClass .byte ∈ cWs := cWs_i3 70 rfl
set_option maxRecDepth 20000 in
theorem co_i : Cond.instanceMethod objectInit ∈ cWs := cWs_i0 2 rfl
set_option maxRecDepth 20000 in
theorem co_c : Cond.code objectInit ⟨#[0xb1]⟩ 1 none ∈ cWs := cWs_i0 3 rfl
set_option maxRecDepth 20000 in
theorem co_X9_3 : Cond.methodLink RX9 3 objectInit ∈ cWs := cWs_i0 1 rfl
set_option maxRecDepth 20000 in
theorem co_X0_3 : Cond.methodLink RX0 3 objectInit ∈ cWs := cWs_i0 12 rfl
set_option maxRecDepth 20000 in
theorem cn_X0_21 : Cond.classLink RX0 21 RX9 ∈ cWs := cWs_i0 16 rfl
set_option maxRecDepth 20000 in
theorem ci_X9 : Cond.instantiable RX9 5 ∈ cWs := cWs_i0 17 rfl
set_option maxRecDepth 20000 in
theorem ct_X9 : Cond.initialized RX9 ∈ cWs := cWs_i0 18 rfl
set_option maxRecDepth 20000 in
theorem co_X1_3 : Cond.methodLink RX1 3 objectInit ∈ cWs := cWs_i0 25 rfl
set_option maxRecDepth 20000 in
theorem ct_J3 : Cond.initialized RJ3 ∈ cWs := cWs_i0 48 rfl
set_option maxRecDepth 20000 in
theorem ct_J15 : Cond.initialized RJ15 ∈ cWs := cWs_i0 54 rfl
set_option maxRecDepth 20000 in
theorem ct_Jx4a65c : Cond.initialized RJx4a65c ∈ cWs := cWs_i0 58 rfl
set_option maxRecDepth 20000 in
theorem ct_X2 : Cond.initialized RX2 ∈ cWs := cWs_i0 72 rfl
set_option maxRecDepth 20000 in
theorem ct_X8 : Cond.initialized RX8 ∈ cWs := cWs_i0 90 rfl
set_option maxRecDepth 20000 in
theorem ct_X5 : Cond.initialized RX5 ∈ cWs := cWs_i0 104 rfl
set_option maxRecDepth 20000 in
theorem ct_X10 : Cond.initialized RX10 ∈ cWs := cWs_i0 120 rfl
set_option maxRecDepth 20000 in
theorem ct_J7 : Cond.initialized RJ7 ∈ cWs := cWs_i0 129 rfl
set_option maxRecDepth 20000 in
theorem ct_X4 : Cond.initialized RX4 ∈ cWs := cWs_i0 154 rfl
set_option maxRecDepth 20000 in
theorem ct_X7 : Cond.initialized RX7 ∈ cWs := cWs_i1 1 rfl
set_option maxRecDepth 20000 in
theorem ct_X6 : Cond.initialized RX6 ∈ cWs := cWs_i1 111 rfl
set_option maxRecDepth 20000 in
theorem ct_J6 : Cond.initialized RJ6 ∈ cWs := cWs_i1 119 rfl
set_option maxRecDepth 20000 in
theorem ct_X1 : Cond.initialized RX1 ∈ cWs := cWs_i1 131 rfl
set_option maxRecDepth 20000 in
theorem ct_X0 : Cond.initialized RX0 ∈ cWs := cWs_i2 27 rfl
set_option maxRecDepth 20000 in
theorem co_X2_3 : Cond.methodLink RX2 3 objectInit ∈ cWs := cWs_i2 56 rfl
set_option maxRecDepth 20000 in
theorem cn_X2_10 : Cond.classLink RX2 10 RX2 ∈ cWs := cWs_i2 61 rfl
set_option maxRecDepth 20000 in
theorem ci_X2 : Cond.instantiable RX2 2 ∈ cWs := cWs_i2 62 rfl
set_option maxRecDepth 20000 in
theorem cz_X2_25 : cCtor RX2 25 yX2_init cX2_init 2 1 := ⟨⟨by decide, by decide⟩, cWs_i2 63 rfl, cWs_i0 72 rfl, cWs_i2 64 rfl, cWs_i2 55 rfl, by decide +kernel, rfl⟩
set_option maxRecDepth 20000 in
theorem ct_J8 : Cond.initialized RJ8 ∈ cWs := cWs_i2 83 rfl
set_option maxRecDepth 20000 in
theorem co_X3_3 : Cond.methodLink RX3 3 objectInit ∈ cWs := cWs_i2 122 rfl
set_option maxRecDepth 20000 in
theorem cn_X3_9 : Cond.classLink RX3 9 RX9 ∈ cWs := cWs_i2 123 rfl
set_option maxRecDepth 20000 in
theorem ct_X3 : Cond.initialized RX3 ∈ cWs := cWs_i2 151 rfl
set_option maxRecDepth 20000 in
theorem co_X4_3 : Cond.methodLink RX4 3 objectInit ∈ cWs := cWs_i3 45 rfl
set_option maxRecDepth 20000 in
theorem cn_X4_10 : Cond.classLink RX4 10 RX4 ∈ cWs := cWs_i3 49 rfl
set_option maxRecDepth 20000 in
theorem ci_X4 : Cond.instantiable RX4 11 ∈ cWs := cWs_i3 50 rfl
set_option maxRecDepth 20000 in
theorem cz_X4_49 : cCtor RX4 49 yX4_init cX4_init 4 3 := ⟨⟨by decide, by decide⟩, cWs_i3 52 rfl, cWs_i0 154 rfl, cWs_i3 53 rfl, cWs_i3 44 rfl, by decide +kernel, rfl⟩
set_option maxRecDepth 20000 in
theorem co_X5_3 : Cond.methodLink RX5 3 objectInit ∈ cWs := cWs_i3 69 rfl
set_option maxRecDepth 20000 in
theorem co_Jxa1e45_1 : Cond.methodLink RJxa1e45 1 objectInit ∈ cWs := cWs_i3 100 rfl
set_option maxRecDepth 20000 in
theorem cz_Jxc12de_1 : cCtor RJxc12de 1 yJxa1e45_init_da8c8 cJxa1e45_init_da8c8 1 0 := ⟨⟨by decide, by decide⟩, cWs_i3 103 rfl, cWs_i3 105 rfl, cWs_i3 104 rfl, cWs_i3 99 rfl, by decide +kernel, rfl⟩
set_option maxRecDepth 20000 in
theorem ct_Jxa1e45 : Cond.initialized RJxa1e45 ∈ cWs := cWs_i3 105 rfl
set_option maxRecDepth 20000 in
theorem cz_Jx4a65c_1 : cCtor RJx4a65c 1 yJxc12de_init_da8c8 cJxc12de_init_da8c8 1 0 := ⟨⟨by decide, by decide⟩, cWs_i3 107 rfl, cWs_i3 109 rfl, cWs_i3 108 rfl, cWs_i3 101 rfl, by decide +kernel, rfl⟩
set_option maxRecDepth 20000 in
theorem ct_Jxc12de : Cond.initialized RJxc12de ∈ cWs := cWs_i3 109 rfl
set_option maxRecDepth 20000 in
theorem co_X6_3 : Cond.methodLink RX6 3 objectInit ∈ cWs := cWs_i3 110 rfl
set_option maxRecDepth 20000 in
theorem cn_X6_9 : Cond.classLink RX6 9 RJx4a65c ∈ cWs := cWs_i3 111 rfl
set_option maxRecDepth 20000 in
theorem ci_Jx4a65c : Cond.instantiable RJx4a65c 3 ∈ cWs := cWs_i3 112 rfl
set_option maxRecDepth 20000 in
theorem cz_X6_11 : cCtor RX6 11 yJx4a65c_init_da8c8 cJx4a65c_init_da8c8 1 0 := ⟨⟨by decide, by decide⟩, cWs_i3 116 rfl, cWs_i0 58 rfl, cWs_i3 117 rfl, cWs_i3 106 rfl, by decide +kernel, rfl⟩
set_option maxRecDepth 20000 in
theorem co_X7_3 : Cond.methodLink RX7 3 objectInit ∈ cWs := cWs_i3 125 rfl
set_option maxRecDepth 20000 in
theorem cn_X7_48 : Cond.classLink RX7 48 RJx4a65c ∈ cWs := cWs_i3 127 rfl
set_option maxRecDepth 20000 in
theorem cz_X7_144 : cCtor RX7 144 yJx4a65c_init_da8c8 cJx4a65c_init_da8c8 1 0 := ⟨⟨by decide, by decide⟩, cWs_i3 130 rfl, cWs_i0 58 rfl, cWs_i3 117 rfl, cWs_i3 106 rfl, by decide +kernel, rfl⟩
set_option maxRecDepth 20000 in
theorem co_X8_1 : Cond.methodLink RX8 1 objectInit ∈ cWs := cWs_i3 142 rfl
set_option maxRecDepth 20000 in
theorem cn_X8_7 : Cond.classLink RX8 7 RJx4a65c ∈ cWs := cWs_i3 143 rfl
set_option maxRecDepth 20000 in
theorem cz_X8_9 : cCtor RX8 9 yJx4a65c_init_da8c8 cJx4a65c_init_da8c8 1 0 := ⟨⟨by decide, by decide⟩, cWs_i3 145 rfl, cWs_i0 58 rfl, cWs_i3 117 rfl, cWs_i3 106 rfl, by decide +kernel, rfl⟩
set_option maxRecDepth 20000 in
theorem cn_X8_67 : Cond.classLink RX8 67 RX5 ∈ cWs := cWs_i3 159 rfl
set_option maxRecDepth 20000 in
theorem ci_X5 : Cond.instantiable RX5 10 ∈ cWs := cWs_i4 0 rfl
set_option maxRecDepth 20000 in
theorem cz_X8_83 : cCtor RX8 83 yX5_init cX5_init 3 1 := ⟨⟨by decide, by decide⟩, cWs_i4 1 rfl, cWs_i0 104 rfl, cWs_i4 2 rfl, cWs_i3 68 rfl, by decide +kernel, rfl⟩
set_option maxRecDepth 20000 in
theorem co_X10_3 : Cond.methodLink RX10 3 objectInit ∈ cWs := cWs_i4 26 rfl
set_option maxRecDepth 20000 in
theorem cn_X10_9 : Cond.classLink RX10 9 RJx4a65c ∈ cWs := cWs_i4 27 rfl
set_option maxRecDepth 20000 in
theorem cz_X10_11 : cCtor RX10 11 yJx4a65c_init_da8c8 cJx4a65c_init_da8c8 1 0 := ⟨⟨by decide, by decide⟩, cWs_i4 29 rfl, cWs_i0 58 rfl, cWs_i3 117 rfl, cWs_i3 106 rfl, by decide +kernel, rfl⟩
set_option maxRecDepth 20000 in
theorem cn_X10_13 : Cond.classLink RX10 13 RX10 ∈ cWs := cWs_i4 50 rfl
set_option maxRecDepth 20000 in
theorem ci_X10 : Cond.instantiable RX10 2 ∈ cWs := cWs_i4 51 rfl
set_option maxRecDepth 20000 in
theorem cz_X10_57 : cCtor RX10 57 yX10_init cX10_init 2 1 := ⟨⟨by decide, by decide⟩, cWs_i4 53 rfl, cWs_i0 120 rfl, cWs_i4 54 rfl, cWs_i4 25 rfl, by decide +kernel, rfl⟩
set_option maxRecDepth 20000 in
theorem co_X11_1 : Cond.methodLink RX11 1 objectInit ∈ cWs := cWs_i4 87 rfl
set_option maxRecDepth 20000 in
theorem cn_X11_7 : Cond.classLink RX11 7 RX3 ∈ cWs := cWs_i4 88 rfl
set_option maxRecDepth 20000 in
theorem ci_X3 : Cond.instantiable RX3 9 ∈ cWs := cWs_i4 89 rfl
set_option maxRecDepth 20000 in
theorem cn_X11_16 : Cond.classLink RX11 16 RX0 ∈ cWs := cWs_i4 91 rfl
set_option maxRecDepth 20000 in
theorem ci_X0 : Cond.instantiable RX0 5 ∈ cWs := cWs_i4 92 rfl
set_option maxRecDepth 20000 in
theorem cn_X11_23 : Cond.classLink RX11 23 RJx4a65c ∈ cWs := cWs_i4 94 rfl
set_option maxRecDepth 20000 in
theorem cn_X11_30 : Cond.classLink RX11 30 RX10 ∈ cWs := cWs_i4 96 rfl
set_option maxRecDepth 20000 in
theorem cn_X11_58 : Cond.classLink RX11 58 RX6 ∈ cWs := cWs_i4 104 rfl
set_option maxRecDepth 20000 in
theorem ci_X6 : Cond.instantiable RX6 5 ∈ cWs := cWs_i4 105 rfl
set_option maxRecDepth 20000 in
theorem cn_X11_68 : Cond.classLink RX11 68 RX7 ∈ cWs := cWs_i4 108 rfl
set_option maxRecDepth 20000 in
theorem ci_X7 : Cond.instantiable RX7 7 ∈ cWs := cWs_i4 109 rfl
set_option maxRecDepth 20000 in
theorem cn_X11_75 : Cond.classLink RX11 75 RX1 ∈ cWs := cWs_i4 111 rfl
set_option maxRecDepth 20000 in
theorem ci_X1 : Cond.instantiable RX1 14 ∈ cWs := cWs_i4 112 rfl
set_option maxRecDepth 20000 in
theorem cz_X11_25 : cCtor RX11 25 yJx4a65c_init_da8c8 cJx4a65c_init_da8c8 1 0 := ⟨⟨by decide, by decide⟩, cWs_i4 121 rfl, cWs_i0 58 rfl, cWs_i3 117 rfl, cWs_i3 106 rfl, by decide +kernel, rfl⟩
set_option maxRecDepth 20000 in
theorem cz_X11_32 : cCtor RX11 32 yX10_init cX10_init 2 1 := ⟨⟨by decide, by decide⟩, cWs_i4 122 rfl, cWs_i0 120 rfl, cWs_i4 54 rfl, cWs_i4 25 rfl, by decide +kernel, rfl⟩
set_option maxRecDepth 20000 in
theorem cz_X11_77 : cCtor RX11 77 yX1_init cX1_init 2 1 := ⟨⟨by decide, by decide⟩, cWs_i4 125 rfl, cWs_i1 131 rfl, cWs_i4 126 rfl, cWs_i0 24 rfl, by decide +kernel, rfl⟩
set_option maxRecDepth 20000 in
theorem ct_X11 : Cond.initialized RX11 ∈ cWs := cWs_i5 2 rfl
set_option maxRecDepth 20000 in
theorem cn_X11_265 : Cond.classLink RX11 265 RX8 ∈ cWs := cWs_i5 51 rfl
set_option maxRecDepth 20000 in
theorem ci_X8 : Cond.instantiable RX8 4 ∈ cWs := cWs_i5 52 rfl
set_option maxRecDepth 20000 in
theorem cz_X11_519 : cCtor RX11 519 yX8_init cX8_init 2 1 := ⟨⟨by decide, by decide⟩, cWs_i5 54 rfl, cWs_i0 90 rfl, cWs_i5 55 rfl, cWs_i3 146 rfl, by decide +kernel, rfl⟩
set_option maxRecDepth 20000 in
theorem cn_X11_259 : Cond.classLink RX11 259 RX2 ∈ cWs := cWs_i5 57 rfl
set_option maxRecDepth 20000 in
theorem cz_X11_512 : cCtor RX11 512 yX2_init cX2_init 2 1 := ⟨⟨by decide, by decide⟩, cWs_i5 69 rfl, cWs_i0 72 rfl, cWs_i2 64 rfl, cWs_i2 55 rfl, by decide +kernel, rfl⟩
set_option maxRecDepth 20000 in
theorem ct_J2 : Cond.initialized RJ2 ∈ cWs := cWs_i6 118 rfl
set_option maxRecDepth 20000 in
theorem co_J5_3 : Cond.methodLink RJ5 3 objectInit ∈ cWs := cWs_i6 120 rfl
set_option maxRecDepth 20000 in
theorem ct_J5 : Cond.initialized RJ5 ∈ cWs := cWs_i6 135 rfl
set_option maxRecDepth 20000 in
theorem ct_J0 : Cond.initialized RJ0 ∈ cWs := cWs_i6 150 rfl
set_option maxRecDepth 20000 in
theorem ct_J1 : Cond.initialized RJ1 ∈ cWs := cWs_i7 9 rfl
set_option maxRecDepth 20000 in
theorem cn_J7_45 : Cond.classLink RJ7 45 RJ4 ∈ cWs := cWs_i7 92 rfl
set_option maxRecDepth 20000 in
theorem ci_J4 : Cond.instantiable RJ4 4 ∈ cWs := cWs_i7 93 rfl
set_option maxRecDepth 20000 in
theorem ct_J4 : Cond.initialized RJ4 ∈ cWs := cWs_i7 94 rfl
set_option maxRecDepth 20000 in
theorem co_J0_1 : Cond.methodLink RJ0 1 objectInit ∈ cWs := cWs_i7 111 rfl
set_option maxRecDepth 20000 in
theorem cz_J0_489 : cCtor RJ0 489 yJ0_init_db425 cJ0_init_db425 5 2 := ⟨⟨by decide, by decide⟩, cWs_i7 128 rfl, cWs_i6 150 rfl, cWs_i7 129 rfl, cWs_i7 127 rfl, by decide +kernel, rfl⟩
set_option maxRecDepth 20000 in
theorem cz_J4_1 : cCtor RJ4 1 yJ5_init_d00df cJ5_init_d00df 2 1 := ⟨⟨by decide, by decide⟩, cWs_i7 132 rfl, cWs_i6 135 rfl, cWs_i7 133 rfl, cWs_i6 119 rfl, by decide +kernel, rfl⟩
set_option maxRecDepth 20000 in
theorem cn_J4_18 : Cond.classLink RJ4 18 RJ0 ∈ cWs := cWs_i7 142 rfl
set_option maxRecDepth 20000 in
theorem ci_J0 : Cond.instantiable RJ0 4 ∈ cWs := cWs_i7 143 rfl
set_option maxRecDepth 20000 in
theorem cz_J4_137 : cCtor RJ4 137 yJ0_init_81219 cJ0_init_81219 2 1 := ⟨⟨by decide, by decide⟩, cWs_i7 144 rfl, cWs_i6 150 rfl, cWs_i7 145 rfl, cWs_i7 130 rfl, by decide +kernel, rfl⟩
set_option maxRecDepth 20000 in
theorem cn_Jx4a65c_20 : Cond.classLink RJx4a65c 20 RJ4 ∈ cWs := cWs_i7 147 rfl
set_option maxRecDepth 20000 in
theorem cz_Jx4a65c_22 : cCtor RJx4a65c 22 yJ4_init_da8c8 cJ4_init_da8c8 1 0 := ⟨⟨by decide, by decide⟩, cWs_i7 148 rfl, cWs_i7 94 rfl, cWs_i7 149 rfl, cWs_i7 131 rfl, by decide +kernel, rfl⟩
section CG4
variable {p : Program} {l : Launch} {e : Env} {R : Room} {s : State} {m : MethodId} {args : Array Value} {below : List Frame} {meth : Method} {c : Code} {A : Nat → Prop} {D : va_G} {Y : cY} {nL : Nat} {Q : State → Prop} {cells slots cells' slots' : Nat}
variable {pc : Nat} {lv : List (Nat × Value)} {st : List Value} {S : cS}
theorem cg_cs (hc : cells = cells') (hs : slots = slots') (k : cG p l e R s m args below meth c A D Y nL Q cells' slots' pc lv st S) : cG p l e R s m args below meth c A D Y nL Q cells slots pc lv st S := by subst hc; subst hs; exact k
theorem cg_astore_n {cc : ByteArray} {tp dp : Nat} {ret : Option FieldType} {own : String} {j : Fin 4} {i x : Nat} {lv' : List (Nat × Value)} (C : cC p s m args meth c cc nL ret A D Y tp dp own) (hi : (j : Nat) = i) (hn : i < nL) (h : (i, Value.ref x) :: lv.filter (fun q => !(q.1 == i) && !(q.1 + 1 == i && q.2.category == 2)) = lv') (d : decode cc pc = .ok (.astore_n j, 1)) (kk : cG p l e R s m args below meth c A D Y nL Q cells slots (pc + 1) lv' st S) : cG p l e R s m args below meth c A D Y nL Q cells slots pc lv (.ref x :: st) S := fun H locs ls hP hD hS hl => lv_astore_n C.1 C.2.1 d hi hl hn h (fun ls' hl' => kk H locs ls' hP hD hS hl')
end CG4
