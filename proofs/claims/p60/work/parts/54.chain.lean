/-! the pool behind steps: members, kinds, fields, rows -/
theorem hm_Si {S T : cS} {q b : Nat} {x : Int32} {a : Nat} (e : T = cSi S q b x) (h : a ∈ cL S) : a ∈ cL T := by subst e; exact h
theorem hf_Si {S T : cS} {q b : Nat} {x : Int32} {a : Nat} (e : T = cSi S q b x) (h : a ∉ cL T) : a ∉ cL S := by subst e; exact h
theorem hk_Si {S T : cS} {q b : Nat} {x : Int32} {a k' : Nat} (e : T = cSi S q b x) (h : cK S a = k') : cK T a = k' := by subst e; exact h
theorem hn_Si {S T : cS} {q b : Nat} {x : Int32} {a n' : Nat} (e : T = cSi S q b x) (h : cn S a = n') : cn T a = n' := by subst e; exact h
theorem hi_Si_s {S T : cS} {q b : Nat} {x : Int32} (e : T = cSi S q b x) : ci T q b = x := by subst e; exact mU_at
theorem hi_Si_q {S T : cS} {q b : Nat} {x : Int32} {p a : Nat} {y : Int32} (e : T = cSi S q b x) (hn : p ≠ q) (h : ci S p a = y) : ci T p a = y := by subst e; exact (mU_nq hn).trans h
theorem hi_Si_n {S T : cS} {q b : Nat} {x : Int32} {p a : Nat} {y : Int32} (e : T = cSi S q b x) (hn : a ≠ b) (h : ci S p a = y) : ci T p a = y := by subst e; exact (mU_ne hn).trans h
theorem hr_Si {S T : cS} {q b : Nat} {x : Int32} {p a : Nat} {y : Option Nat} (e : T = cSi S q b x) (h : cr S p a = y) : cr T p a = y := by subst e; exact h
theorem hw_Si {S T : cS} {q b : Nat} {x : Int32} {p a : Nat} {y : Int64} (e : T = cSi S q b x) (h : cw S p a = y) : cw T p a = y := by subst e; exact h
theorem hI_Si {S T : cS} {q b : Nat} {x : Int32} {d : Nat} {f : Nat → Int32} (e : T = cSi S q b x) (h : cI S d = f) : cI T d = f := by subst e; exact h
theorem hJ_Si {S T : cS} {q b : Nat} {x : Int32} {d : Nat} {f : Nat → Int64} (e : T = cSi S q b x) (h : cJ S d = f) : cJ T d = f := by subst e; exact h
theorem hO_Si {S T : cS} {q b : Nat} {x : Int32} {d : Nat} {f : Nat → Option Nat} (e : T = cSi S q b x) (h : cO S d = f) : cO T d = f := by subst e; exact h
theorem hm_Sr {S T : cS} {q b : Nat} {x : Option Nat} {a : Nat} (e : T = cSr S q b x) (h : a ∈ cL S) : a ∈ cL T := by subst e; exact h
theorem hf_Sr {S T : cS} {q b : Nat} {x : Option Nat} {a : Nat} (e : T = cSr S q b x) (h : a ∉ cL T) : a ∉ cL S := by subst e; exact h
theorem hk_Sr {S T : cS} {q b : Nat} {x : Option Nat} {a k' : Nat} (e : T = cSr S q b x) (h : cK S a = k') : cK T a = k' := by subst e; exact h
theorem hn_Sr {S T : cS} {q b : Nat} {x : Option Nat} {a n' : Nat} (e : T = cSr S q b x) (h : cn S a = n') : cn T a = n' := by subst e; exact h
theorem hi_Sr {S T : cS} {q b : Nat} {x : Option Nat} {p a : Nat} {y : Int32} (e : T = cSr S q b x) (h : ci S p a = y) : ci T p a = y := by subst e; exact h
theorem hr_Sr_s {S T : cS} {q b : Nat} {x : Option Nat} (e : T = cSr S q b x) : cr T q b = x := by subst e; exact mU_at
theorem hr_Sr_q {S T : cS} {q b : Nat} {x : Option Nat} {p a : Nat} {y : Option Nat} (e : T = cSr S q b x) (hn : p ≠ q) (h : cr S p a = y) : cr T p a = y := by subst e; exact (mU_nq hn).trans h
theorem hr_Sr_n {S T : cS} {q b : Nat} {x : Option Nat} {p a : Nat} {y : Option Nat} (e : T = cSr S q b x) (hn : a ≠ b) (h : cr S p a = y) : cr T p a = y := by subst e; exact (mU_ne hn).trans h
theorem hw_Sr {S T : cS} {q b : Nat} {x : Option Nat} {p a : Nat} {y : Int64} (e : T = cSr S q b x) (h : cw S p a = y) : cw T p a = y := by subst e; exact h
theorem hI_Sr {S T : cS} {q b : Nat} {x : Option Nat} {d : Nat} {f : Nat → Int32} (e : T = cSr S q b x) (h : cI S d = f) : cI T d = f := by subst e; exact h
theorem hJ_Sr {S T : cS} {q b : Nat} {x : Option Nat} {d : Nat} {f : Nat → Int64} (e : T = cSr S q b x) (h : cJ S d = f) : cJ T d = f := by subst e; exact h
theorem hO_Sr {S T : cS} {q b : Nat} {x : Option Nat} {d : Nat} {f : Nat → Option Nat} (e : T = cSr S q b x) (h : cO S d = f) : cO T d = f := by subst e; exact h
theorem hm_Sw {S T : cS} {q b : Nat} {x : Int64} {a : Nat} (e : T = cSw S q b x) (h : a ∈ cL S) : a ∈ cL T := by subst e; exact h
theorem hf_Sw {S T : cS} {q b : Nat} {x : Int64} {a : Nat} (e : T = cSw S q b x) (h : a ∉ cL T) : a ∉ cL S := by subst e; exact h
theorem hk_Sw {S T : cS} {q b : Nat} {x : Int64} {a k' : Nat} (e : T = cSw S q b x) (h : cK S a = k') : cK T a = k' := by subst e; exact h
theorem hn_Sw {S T : cS} {q b : Nat} {x : Int64} {a n' : Nat} (e : T = cSw S q b x) (h : cn S a = n') : cn T a = n' := by subst e; exact h
theorem hi_Sw {S T : cS} {q b : Nat} {x : Int64} {p a : Nat} {y : Int32} (e : T = cSw S q b x) (h : ci S p a = y) : ci T p a = y := by subst e; exact h
theorem hr_Sw {S T : cS} {q b : Nat} {x : Int64} {p a : Nat} {y : Option Nat} (e : T = cSw S q b x) (h : cr S p a = y) : cr T p a = y := by subst e; exact h
theorem hw_Sw_s {S T : cS} {q b : Nat} {x : Int64} (e : T = cSw S q b x) : cw T q b = x := by subst e; exact mU_at
theorem hw_Sw_q {S T : cS} {q b : Nat} {x : Int64} {p a : Nat} {y : Int64} (e : T = cSw S q b x) (hn : p ≠ q) (h : cw S p a = y) : cw T p a = y := by subst e; exact (mU_nq hn).trans h
theorem hw_Sw_n {S T : cS} {q b : Nat} {x : Int64} {p a : Nat} {y : Int64} (e : T = cSw S q b x) (hn : a ≠ b) (h : cw S p a = y) : cw T p a = y := by subst e; exact (mU_ne hn).trans h
theorem hI_Sw {S T : cS} {q b : Nat} {x : Int64} {d : Nat} {f : Nat → Int32} (e : T = cSw S q b x) (h : cI S d = f) : cI T d = f := by subst e; exact h
theorem hJ_Sw {S T : cS} {q b : Nat} {x : Int64} {d : Nat} {f : Nat → Int64} (e : T = cSw S q b x) (h : cJ S d = f) : cJ T d = f := by subst e; exact h
theorem hO_Sw {S T : cS} {q b : Nat} {x : Int64} {d : Nat} {f : Nat → Option Nat} (e : T = cSw S q b x) (h : cO S d = f) : cO T d = f := by subst e; exact h
theorem hm_SI {S T : cS} {b k : Nat} {x : Int32} {a : Nat} (e : T = cSI S b k x) (h : a ∈ cL S) : a ∈ cL T := by subst e; exact h
theorem hf_SI {S T : cS} {b k : Nat} {x : Int32} {a : Nat} (e : T = cSI S b k x) (h : a ∉ cL T) : a ∉ cL S := by subst e; exact h
theorem hk_SI {S T : cS} {b k : Nat} {x : Int32} {a k' : Nat} (e : T = cSI S b k x) (h : cK S a = k') : cK T a = k' := by subst e; exact h
theorem hn_SI {S T : cS} {b k : Nat} {x : Int32} {a n' : Nat} (e : T = cSI S b k x) (h : cn S a = n') : cn T a = n' := by subst e; exact h
theorem hi_SI {S T : cS} {b k : Nat} {x : Int32} {p a : Nat} {y : Int32} (e : T = cSI S b k x) (h : ci S p a = y) : ci T p a = y := by subst e; exact h
theorem hr_SI {S T : cS} {b k : Nat} {x : Int32} {p a : Nat} {y : Option Nat} (e : T = cSI S b k x) (h : cr S p a = y) : cr T p a = y := by subst e; exact h
theorem hw_SI {S T : cS} {b k : Nat} {x : Int32} {p a : Nat} {y : Int64} (e : T = cSI S b k x) (h : cw S p a = y) : cw T p a = y := by subst e; exact h
theorem hI_SI_e {S T : cS} {b k : Nat} {x : Int32} {f : Nat → Int32} (e : T = cSI S b k x) (h : cI S b = f) : cI T b = upR f k x := by subst e; exact (mU_s).trans (by rw [h]; rfl)
theorem hI_SI_n {S T : cS} {b k : Nat} {x : Int32} {d : Nat} {f : Nat → Int32} (e : T = cSI S b k x) (hn : d ≠ b) (h : cI S d = f) : cI T d = f := by subst e; exact (mU_n hn).trans h
theorem hJ_SI {S T : cS} {b k : Nat} {x : Int32} {d : Nat} {f : Nat → Int64} (e : T = cSI S b k x) (h : cJ S d = f) : cJ T d = f := by subst e; exact h
theorem hO_SI {S T : cS} {b k : Nat} {x : Int32} {d : Nat} {f : Nat → Option Nat} (e : T = cSI S b k x) (h : cO S d = f) : cO T d = f := by subst e; exact h
theorem hm_SJ {S T : cS} {b k : Nat} {x : Int64} {a : Nat} (e : T = cSJ S b k x) (h : a ∈ cL S) : a ∈ cL T := by subst e; exact h
theorem hf_SJ {S T : cS} {b k : Nat} {x : Int64} {a : Nat} (e : T = cSJ S b k x) (h : a ∉ cL T) : a ∉ cL S := by subst e; exact h
theorem hk_SJ {S T : cS} {b k : Nat} {x : Int64} {a k' : Nat} (e : T = cSJ S b k x) (h : cK S a = k') : cK T a = k' := by subst e; exact h
theorem hn_SJ {S T : cS} {b k : Nat} {x : Int64} {a n' : Nat} (e : T = cSJ S b k x) (h : cn S a = n') : cn T a = n' := by subst e; exact h
theorem hi_SJ {S T : cS} {b k : Nat} {x : Int64} {p a : Nat} {y : Int32} (e : T = cSJ S b k x) (h : ci S p a = y) : ci T p a = y := by subst e; exact h
theorem hr_SJ {S T : cS} {b k : Nat} {x : Int64} {p a : Nat} {y : Option Nat} (e : T = cSJ S b k x) (h : cr S p a = y) : cr T p a = y := by subst e; exact h
theorem hw_SJ {S T : cS} {b k : Nat} {x : Int64} {p a : Nat} {y : Int64} (e : T = cSJ S b k x) (h : cw S p a = y) : cw T p a = y := by subst e; exact h
theorem hI_SJ {S T : cS} {b k : Nat} {x : Int64} {d : Nat} {f : Nat → Int32} (e : T = cSJ S b k x) (h : cI S d = f) : cI T d = f := by subst e; exact h
theorem hJ_SJ_e {S T : cS} {b k : Nat} {x : Int64} {f : Nat → Int64} (e : T = cSJ S b k x) (h : cJ S b = f) : cJ T b = upR f k x := by subst e; exact (mU_s).trans (by rw [h]; rfl)
theorem hJ_SJ_n {S T : cS} {b k : Nat} {x : Int64} {d : Nat} {f : Nat → Int64} (e : T = cSJ S b k x) (hn : d ≠ b) (h : cJ S d = f) : cJ T d = f := by subst e; exact (mU_n hn).trans h
theorem hO_SJ {S T : cS} {b k : Nat} {x : Int64} {d : Nat} {f : Nat → Option Nat} (e : T = cSJ S b k x) (h : cO S d = f) : cO T d = f := by subst e; exact h
theorem hm_SO {S T : cS} {b k : Nat} {x : Option Nat} {a : Nat} (e : T = cSO S b k x) (h : a ∈ cL S) : a ∈ cL T := by subst e; exact h
theorem hf_SO {S T : cS} {b k : Nat} {x : Option Nat} {a : Nat} (e : T = cSO S b k x) (h : a ∉ cL T) : a ∉ cL S := by subst e; exact h
theorem hk_SO {S T : cS} {b k : Nat} {x : Option Nat} {a k' : Nat} (e : T = cSO S b k x) (h : cK S a = k') : cK T a = k' := by subst e; exact h
theorem hn_SO {S T : cS} {b k : Nat} {x : Option Nat} {a n' : Nat} (e : T = cSO S b k x) (h : cn S a = n') : cn T a = n' := by subst e; exact h
theorem hi_SO {S T : cS} {b k : Nat} {x : Option Nat} {p a : Nat} {y : Int32} (e : T = cSO S b k x) (h : ci S p a = y) : ci T p a = y := by subst e; exact h
theorem hr_SO {S T : cS} {b k : Nat} {x : Option Nat} {p a : Nat} {y : Option Nat} (e : T = cSO S b k x) (h : cr S p a = y) : cr T p a = y := by subst e; exact h
theorem hw_SO {S T : cS} {b k : Nat} {x : Option Nat} {p a : Nat} {y : Int64} (e : T = cSO S b k x) (h : cw S p a = y) : cw T p a = y := by subst e; exact h
theorem hI_SO {S T : cS} {b k : Nat} {x : Option Nat} {d : Nat} {f : Nat → Int32} (e : T = cSO S b k x) (h : cI S d = f) : cI T d = f := by subst e; exact h
theorem hJ_SO {S T : cS} {b k : Nat} {x : Option Nat} {d : Nat} {f : Nat → Int64} (e : T = cSO S b k x) (h : cJ S d = f) : cJ T d = f := by subst e; exact h
theorem hO_SO_e {S T : cS} {b k : Nat} {x : Option Nat} {f : Nat → Option Nat} (e : T = cSO S b k x) (h : cO S b = f) : cO T b = upR f k x := by subst e; exact (mU_s).trans (by rw [h]; rfl)
theorem hO_SO_n {S T : cS} {b k : Nat} {x : Option Nat} {d : Nat} {f : Nat → Option Nat} (e : T = cSO S b k x) (hn : d ≠ b) (h : cO S d = f) : cO T d = f := by subst e; exact (mU_n hn).trans h
theorem hm_No {S T : cS} {b k : Nat} (e : T = cNew S b k) : b ∈ cL T := by subst e; exact List.mem_append_right _ List.mem_cons_self
theorem hm_N {S T : cS} {b k : Nat} {a : Nat} (e : T = cNew S b k) (h : a ∈ cL S) : a ∈ cL T := by subst e; exact List.mem_append_left _ h
theorem hf_N {S T : cS} {b k : Nat} {a : Nat} (e : T = cNew S b k) (h : a ∉ cL T) : a ∉ cL S := by subst e; exact fun z => h (List.mem_append_left _ z)
theorem hk_No {S T : cS} {b k : Nat} (e : T = cNew S b k) : cK T b = k := by subst e; exact upR_s
theorem hk_N {S T : cS} {b k : Nat} {a k' : Nat} (e : T = cNew S b k) (hn : a ≠ b) (h : cK S a = k') : cK T a = k' := by subst e; exact (upR_n hn).trans h
theorem hn_N {S T : cS} {b k : Nat} {a n' : Nat} (e : T = cNew S b k) (h : cn S a = n') : cn T a = n' := by subst e; exact h
theorem hi_No {S T : cS} {b k : Nat} {p : Nat} (e : T = cNew S b k) : ci T p b = 0 := by subst e; exact if_pos rfl
theorem hi_N {S T : cS} {b k : Nat} {p a : Nat} {y : Int32} (e : T = cNew S b k) (hn : a ≠ b) (h : ci S p a = y) : ci T p a = y := by subst e; exact (if_neg hn).trans h
theorem hr_No {S T : cS} {b k : Nat} {p : Nat} (e : T = cNew S b k) : cr T p b = none := by subst e; exact if_pos rfl
theorem hr_N {S T : cS} {b k : Nat} {p a : Nat} {y : Option Nat} (e : T = cNew S b k) (hn : a ≠ b) (h : cr S p a = y) : cr T p a = y := by subst e; exact (if_neg hn).trans h
theorem hw_No {S T : cS} {b k : Nat} {p : Nat} (e : T = cNew S b k) : cw T p b = 0 := by subst e; exact if_pos rfl
theorem hw_N {S T : cS} {b k : Nat} {p a : Nat} {y : Int64} (e : T = cNew S b k) (hn : a ≠ b) (h : cw S p a = y) : cw T p a = y := by subst e; exact (if_neg hn).trans h
theorem hI_N {S T : cS} {b k : Nat} {d : Nat} {f : Nat → Int32} (e : T = cNew S b k) (h : cI S d = f) : cI T d = f := by subst e; exact h
theorem hJ_N {S T : cS} {b k : Nat} {d : Nat} {f : Nat → Int64} (e : T = cNew S b k) (h : cJ S d = f) : cJ T d = f := by subst e; exact h
theorem hO_N {S T : cS} {b k : Nat} {d : Nat} {f : Nat → Option Nat} (e : T = cNew S b k) (h : cO S d = f) : cO T d = f := by subst e; exact h
theorem hm_Ao {S T : cS} {b k n : Nat} (e : T = cNewA S b k n) : b ∈ cL T := by subst e; exact List.mem_append_right _ List.mem_cons_self
theorem hm_A {S T : cS} {b k n : Nat} {a : Nat} (e : T = cNewA S b k n) (h : a ∈ cL S) : a ∈ cL T := by subst e; exact List.mem_append_left _ h
theorem hf_A {S T : cS} {b k n : Nat} {a : Nat} (e : T = cNewA S b k n) (h : a ∉ cL T) : a ∉ cL S := by subst e; exact fun z => h (List.mem_append_left _ z)
theorem hk_Ao {S T : cS} {b k n : Nat} (e : T = cNewA S b k n) : cK T b = k := by subst e; exact upR_s
theorem hk_A {S T : cS} {b k n : Nat} {a k' : Nat} (e : T = cNewA S b k n) (hn : a ≠ b) (h : cK S a = k') : cK T a = k' := by subst e; exact (upR_n hn).trans h
theorem hn_Ao {S T : cS} {b k n : Nat} (e : T = cNewA S b k n) : cn T b = n := by subst e; exact upR_s
theorem hn_A {S T : cS} {b k n : Nat} {a n' : Nat} (e : T = cNewA S b k n) (hn : a ≠ b) (h : cn S a = n') : cn T a = n' := by subst e; exact (upR_n hn).trans h
theorem hi_A {S T : cS} {b k n : Nat} {p a : Nat} {y : Int32} (e : T = cNewA S b k n) (h : ci S p a = y) : ci T p a = y := by subst e; exact h
theorem hr_A {S T : cS} {b k n : Nat} {p a : Nat} {y : Option Nat} (e : T = cNewA S b k n) (h : cr S p a = y) : cr T p a = y := by subst e; exact h
theorem hw_A {S T : cS} {b k n : Nat} {p a : Nat} {y : Int64} (e : T = cNewA S b k n) (h : cw S p a = y) : cw T p a = y := by subst e; exact h
theorem hI_Ao {S T : cS} {b k n : Nat} (e : T = cNewA S b k n) : cI T b = fun _ => 0 := by subst e; exact upR_s
theorem hI_A {S T : cS} {b k n : Nat} {d : Nat} {f : Nat → Int32} (e : T = cNewA S b k n) (hn : d ≠ b) (h : cI S d = f) : cI T d = f := by subst e; exact (upR_n hn).trans h
theorem hJ_Ao {S T : cS} {b k n : Nat} (e : T = cNewA S b k n) : cJ T b = fun _ => 0 := by subst e; exact upR_s
theorem hJ_A {S T : cS} {b k n : Nat} {d : Nat} {f : Nat → Int64} (e : T = cNewA S b k n) (hn : d ≠ b) (h : cJ S d = f) : cJ T d = f := by subst e; exact (upR_n hn).trans h
theorem hO_Ao {S T : cS} {b k n : Nat} (e : T = cNewA S b k n) : cO T b = fun _ => none := by subst e; exact upR_s
theorem hO_A {S T : cS} {b k n : Nat} {d : Nat} {f : Nat → Option Nat} (e : T = cNewA S b k n) (hn : d ≠ b) (h : cO S d = f) : cO T d = f := by subst e; exact (upR_n hn).trans h
theorem heI_Si {S T : cS} {q b : Nat} {x : Int32} {d j : Nat} {y : Int32} (e : T = cSi S q b x) (h : cI S d j = y) : cI T d j = y := by subst e; exact h
theorem heI_Sr {S T : cS} {q b : Nat} {x : Option Nat} {d j : Nat} {y : Int32} (e : T = cSr S q b x) (h : cI S d j = y) : cI T d j = y := by subst e; exact h
theorem heI_Sw {S T : cS} {q b : Nat} {x : Int64} {d j : Nat} {y : Int32} (e : T = cSw S q b x) (h : cI S d j = y) : cI T d j = y := by subst e; exact h
theorem heI_SI_s {S T : cS} {b k : Nat} {x : Int32} (e : T = cSI S b k x) : cI T b k = x := by subst e; exact (congrFun (mU_s) k).trans upR_s
theorem heI_SI_k {S T : cS} {b k : Nat} {x : Int32} {j : Nat} {y : Int32} (e : T = cSI S b k x) (hn : j ≠ k) (h : cI S b j = y) : cI T b j = y := by subst e; exact (congrFun (mU_s) j).trans ((upR_n hn).trans h)
theorem heI_SI_n {S T : cS} {b k : Nat} {x : Int32} {d j : Nat} {y : Int32} (e : T = cSI S b k x) (hn : d ≠ b) (h : cI S d j = y) : cI T d j = y := by subst e; exact (congrFun (mU_n hn) j).trans h
theorem heI_SJ {S T : cS} {b k : Nat} {x : Int64} {d j : Nat} {y : Int32} (e : T = cSJ S b k x) (h : cI S d j = y) : cI T d j = y := by subst e; exact h
theorem heI_SO {S T : cS} {b k : Nat} {x : Option Nat} {d j : Nat} {y : Int32} (e : T = cSO S b k x) (h : cI S d j = y) : cI T d j = y := by subst e; exact h
theorem heI_N {S T : cS} {b k : Nat} {d j : Nat} {y : Int32} (e : T = cNew S b k) (h : cI S d j = y) : cI T d j = y := by subst e; exact h
theorem heI_Ao {S T : cS} {b k n : Nat} {j : Nat} (e : T = cNewA S b k n) : cI T b j = nI 0 := by subst e; exact (congrFun (upR_s) j)
theorem heI_A {S T : cS} {b k n : Nat} {d j : Nat} {y : Int32} (e : T = cNewA S b k n) (hn : d ≠ b) (h : cI S d j = y) : cI T d j = y := by subst e; exact (congrFun (upR_n hn) j).trans h
theorem heJ_Si {S T : cS} {q b : Nat} {x : Int32} {d j : Nat} {y : Int64} (e : T = cSi S q b x) (h : cJ S d j = y) : cJ T d j = y := by subst e; exact h
theorem heJ_Sr {S T : cS} {q b : Nat} {x : Option Nat} {d j : Nat} {y : Int64} (e : T = cSr S q b x) (h : cJ S d j = y) : cJ T d j = y := by subst e; exact h
theorem heJ_Sw {S T : cS} {q b : Nat} {x : Int64} {d j : Nat} {y : Int64} (e : T = cSw S q b x) (h : cJ S d j = y) : cJ T d j = y := by subst e; exact h
theorem heJ_SI {S T : cS} {b k : Nat} {x : Int32} {d j : Nat} {y : Int64} (e : T = cSI S b k x) (h : cJ S d j = y) : cJ T d j = y := by subst e; exact h
theorem heJ_SJ_s {S T : cS} {b k : Nat} {x : Int64} (e : T = cSJ S b k x) : cJ T b k = x := by subst e; exact (congrFun (mU_s) k).trans upR_s
theorem heJ_SJ_k {S T : cS} {b k : Nat} {x : Int64} {j : Nat} {y : Int64} (e : T = cSJ S b k x) (hn : j ≠ k) (h : cJ S b j = y) : cJ T b j = y := by subst e; exact (congrFun (mU_s) j).trans ((upR_n hn).trans h)
theorem heJ_SJ_n {S T : cS} {b k : Nat} {x : Int64} {d j : Nat} {y : Int64} (e : T = cSJ S b k x) (hn : d ≠ b) (h : cJ S d j = y) : cJ T d j = y := by subst e; exact (congrFun (mU_n hn) j).trans h
theorem heJ_SO {S T : cS} {b k : Nat} {x : Option Nat} {d j : Nat} {y : Int64} (e : T = cSO S b k x) (h : cJ S d j = y) : cJ T d j = y := by subst e; exact h
theorem heJ_N {S T : cS} {b k : Nat} {d j : Nat} {y : Int64} (e : T = cNew S b k) (h : cJ S d j = y) : cJ T d j = y := by subst e; exact h
theorem heJ_Ao {S T : cS} {b k n : Nat} {j : Nat} (e : T = cNewA S b k n) : cJ T b j = 0 := by subst e; exact (congrFun (upR_s) j)
theorem heJ_A {S T : cS} {b k n : Nat} {d j : Nat} {y : Int64} (e : T = cNewA S b k n) (hn : d ≠ b) (h : cJ S d j = y) : cJ T d j = y := by subst e; exact (congrFun (upR_n hn) j).trans h
theorem heO_Si {S T : cS} {q b : Nat} {x : Int32} {d j : Nat} {y : Option Nat} (e : T = cSi S q b x) (h : cO S d j = y) : cO T d j = y := by subst e; exact h
theorem heO_Sr {S T : cS} {q b : Nat} {x : Option Nat} {d j : Nat} {y : Option Nat} (e : T = cSr S q b x) (h : cO S d j = y) : cO T d j = y := by subst e; exact h
theorem heO_Sw {S T : cS} {q b : Nat} {x : Int64} {d j : Nat} {y : Option Nat} (e : T = cSw S q b x) (h : cO S d j = y) : cO T d j = y := by subst e; exact h
theorem heO_SI {S T : cS} {b k : Nat} {x : Int32} {d j : Nat} {y : Option Nat} (e : T = cSI S b k x) (h : cO S d j = y) : cO T d j = y := by subst e; exact h
theorem heO_SJ {S T : cS} {b k : Nat} {x : Int64} {d j : Nat} {y : Option Nat} (e : T = cSJ S b k x) (h : cO S d j = y) : cO T d j = y := by subst e; exact h
theorem heO_SO_s {S T : cS} {b k : Nat} {x : Option Nat} (e : T = cSO S b k x) : cO T b k = x := by subst e; exact (congrFun (mU_s) k).trans upR_s
theorem heO_SO_k {S T : cS} {b k : Nat} {x : Option Nat} {j : Nat} {y : Option Nat} (e : T = cSO S b k x) (hn : j ≠ k) (h : cO S b j = y) : cO T b j = y := by subst e; exact (congrFun (mU_s) j).trans ((upR_n hn).trans h)
theorem heO_SO_n {S T : cS} {b k : Nat} {x : Option Nat} {d j : Nat} {y : Option Nat} (e : T = cSO S b k x) (hn : d ≠ b) (h : cO S d j = y) : cO T d j = y := by subst e; exact (congrFun (mU_n hn) j).trans h
theorem heO_N {S T : cS} {b k : Nat} {d j : Nat} {y : Option Nat} (e : T = cNew S b k) (h : cO S d j = y) : cO T d j = y := by subst e; exact h
theorem heO_Ao {S T : cS} {b k n : Nat} {j : Nat} (e : T = cNewA S b k n) : cO T b j = none := by subst e; exact (congrFun (upR_s) j)
theorem heO_A {S T : cS} {b k n : Nat} {d j : Nat} {y : Option Nat} (e : T = cNewA S b k n) (hn : d ≠ b) (h : cO S d j = y) : cO T d j = y := by subst e; exact (congrFun (upR_n hn) j).trans h
theorem cm_ne {S : cS} {a q : Nat} (h : a ∈ cL S) (hq : q ∉ cL S) : a ≠ q := fun e => hq (e ▸ h)
theorem cm_k {S : cS} {a b k k' : Nat} (h : cK S a = k) (h2 : cK S b = k') (hn : k ≠ k') : a ≠ b := fun e => hn (h.symm.trans ((congrArg (cK S) e).trans h2))
set_option maxRecDepth 20000 in
theorem ca_int : Cond.arrayClass .int ∈ cWs := cWs_i0 4 rfl
set_option maxRecDepth 20000 in
theorem ca_long : Cond.arrayClass .long ∈ cWs := cWs_i0 7 rfl
set_option maxRecDepth 20000 in
theorem ca_boolean : Cond.arrayClass .boolean ∈ cWs := cWs_i2 58 rfl
set_option maxRecDepth 20000 in
theorem ca_byte : Cond.arrayClass .byte ∈ cWs := cWs_i3 70 rfl
set_option maxRecDepth 20000 in
theorem co_i : Cond.instanceMethod objectInit ∈ cWs := cWs_i0 2 rfl
set_option maxRecDepth 20000 in
theorem co_c : Cond.code objectInit ⟨#[0xb1]⟩ 1 none ∈ cWs := cWs_i0 3 rfl
set_option maxRecDepth 20000 in
theorem co_X9_3 : Cond.methodLink RX9 3 objectInit ∈ cWs := cWs_i0 1 rfl
set_option maxRecDepth 20000 in
theorem co_X0_3 : Cond.methodLink RX0 3 objectInit ∈ cWs := cWs_i0 12 rfl
set_option maxRecDepth 20000 in
theorem cn_X0_21 : Cond.classLink RX0 21 RX9 ∈ cWs := cWs_i0 16 rfl
set_option maxRecDepth 20000 in
theorem ci_X9 : Cond.instantiable RX9 5 ∈ cWs := cWs_i0 17 rfl
set_option maxRecDepth 20000 in
theorem ct_X9 : Cond.initialized RX9 ∈ cWs := cWs_i0 18 rfl
set_option maxRecDepth 20000 in
theorem co_X1_3 : Cond.methodLink RX1 3 objectInit ∈ cWs := cWs_i0 25 rfl
set_option maxRecDepth 20000 in
theorem cx_X1_43 : Cond.classLink RX1 43 "[[I" ∈ cWs := cWs_i0 36 rfl
set_option maxRecDepth 20000 in
theorem ct_J3 : Cond.initialized RJ3 ∈ cWs := cWs_i0 48 rfl
set_option maxRecDepth 20000 in
theorem ct_J15 : Cond.initialized RJ15 ∈ cWs := cWs_i0 54 rfl
set_option maxRecDepth 20000 in
theorem ct_Jx4a65c : Cond.initialized RJx4a65c ∈ cWs := cWs_i0 58 rfl
set_option maxRecDepth 20000 in
theorem ct_X2 : Cond.initialized RX2 ∈ cWs := cWs_i0 72 rfl
set_option maxRecDepth 20000 in
theorem ct_X8 : Cond.initialized RX8 ∈ cWs := cWs_i0 90 rfl
set_option maxRecDepth 20000 in
theorem ct_X5 : Cond.initialized RX5 ∈ cWs := cWs_i0 104 rfl
set_option maxRecDepth 20000 in
theorem ct_X10 : Cond.initialized RX10 ∈ cWs := cWs_i0 120 rfl
set_option maxRecDepth 20000 in
theorem ct_J7 : Cond.initialized RJ7 ∈ cWs := cWs_i0 129 rfl
set_option maxRecDepth 20000 in
theorem ct_X4 : Cond.initialized RX4 ∈ cWs := cWs_i0 154 rfl
set_option maxRecDepth 20000 in
theorem ct_X7 : Cond.initialized RX7 ∈ cWs := cWs_i1 1 rfl
set_option maxRecDepth 20000 in
theorem ct_X6 : Cond.initialized RX6 ∈ cWs := cWs_i1 111 rfl
set_option maxRecDepth 20000 in
theorem ct_J6 : Cond.initialized RJ6 ∈ cWs := cWs_i1 119 rfl
set_option maxRecDepth 20000 in
theorem ct_X1 : Cond.initialized RX1 ∈ cWs := cWs_i1 131 rfl
set_option maxRecDepth 20000 in
theorem ct_X0 : Cond.initialized RX0 ∈ cWs := cWs_i2 27 rfl
set_option maxRecDepth 20000 in
theorem co_X2_3 : Cond.methodLink RX2 3 objectInit ∈ cWs := cWs_i2 56 rfl
set_option maxRecDepth 20000 in
theorem cn_X2_10 : Cond.classLink RX2 10 RX2 ∈ cWs := cWs_i2 61 rfl
set_option maxRecDepth 20000 in
theorem ci_X2 : Cond.instantiable RX2 2 ∈ cWs := cWs_i2 62 rfl
set_option maxRecDepth 20000 in
theorem cz_X2_25 : cCtor RX2 25 yX2_init cX2_init 2 1 := ⟨⟨by decide, by decide⟩, cWs_i2 63 rfl, cWs_i0 72 rfl, cWs_i2 64 rfl, cWs_i2 55 rfl, by decide +kernel, rfl⟩
set_option maxRecDepth 20000 in
theorem ct_J8 : Cond.initialized RJ8 ∈ cWs := cWs_i2 83 rfl
set_option maxRecDepth 20000 in
theorem co_X3_3 : Cond.methodLink RX3 3 objectInit ∈ cWs := cWs_i2 122 rfl
set_option maxRecDepth 20000 in
theorem cn_X3_9 : Cond.classLink RX3 9 RX9 ∈ cWs := cWs_i2 123 rfl
set_option maxRecDepth 20000 in
theorem ct_X3 : Cond.initialized RX3 ∈ cWs := cWs_i2 151 rfl
set_option maxRecDepth 20000 in
theorem cx_J7_320 : Cond.classLink RJ7 320 "[J" ∈ cWs := cWs_i3 9 rfl
set_option maxRecDepth 20000 in
theorem cx_J7_317 : Cond.classLink RJ7 317 "[I" ∈ cWs := cWs_i3 14 rfl
set_option maxRecDepth 20000 in
theorem co_X4_3 : Cond.methodLink RX4 3 objectInit ∈ cWs := cWs_i3 45 rfl
set_option maxRecDepth 20000 in
theorem cn_X4_10 : Cond.classLink RX4 10 RX4 ∈ cWs := cWs_i3 49 rfl
set_option maxRecDepth 20000 in
theorem ci_X4 : Cond.instantiable RX4 11 ∈ cWs := cWs_i3 50 rfl
set_option maxRecDepth 20000 in
theorem cz_X4_49 : cCtor RX4 49 yX4_init cX4_init 4 3 := ⟨⟨by decide, by decide⟩, cWs_i3 52 rfl, cWs_i0 154 rfl, cWs_i3 53 rfl, cWs_i3 44 rfl, by decide +kernel, rfl⟩
set_option maxRecDepth 20000 in
theorem co_X5_3 : Cond.methodLink RX5 3 objectInit ∈ cWs := cWs_i3 69 rfl
set_option maxRecDepth 20000 in
theorem cx_J7_311 : Cond.classLink RJ7 311 "[B" ∈ cWs := cWs_i3 80 rfl
set_option maxRecDepth 20000 in
theorem co_Jxa1e45_1 : Cond.methodLink RJxa1e45 1 objectInit ∈ cWs := cWs_i3 98 rfl
set_option maxRecDepth 20000 in
theorem cz_Jxc12de_1 : cCtor RJxc12de 1 yJxa1e45_init_da8c8 cJxa1e45_init_da8c8 1 0 := ⟨⟨by decide, by decide⟩, cWs_i3 101 rfl, cWs_i3 103 rfl, cWs_i3 102 rfl, cWs_i3 97 rfl, by decide +kernel, rfl⟩
set_option maxRecDepth 20000 in
theorem ct_Jxa1e45 : Cond.initialized RJxa1e45 ∈ cWs := cWs_i3 103 rfl
set_option maxRecDepth 20000 in
theorem cz_Jx4a65c_1 : cCtor RJx4a65c 1 yJxc12de_init_da8c8 cJxc12de_init_da8c8 1 0 := ⟨⟨by decide, by decide⟩, cWs_i3 105 rfl, cWs_i3 107 rfl, cWs_i3 106 rfl, cWs_i3 99 rfl, by decide +kernel, rfl⟩
set_option maxRecDepth 20000 in
theorem ct_Jxc12de : Cond.initialized RJxc12de ∈ cWs := cWs_i3 107 rfl
set_option maxRecDepth 20000 in
theorem co_X6_3 : Cond.methodLink RX6 3 objectInit ∈ cWs := cWs_i3 108 rfl
set_option maxRecDepth 20000 in
theorem cn_X6_9 : Cond.classLink RX6 9 RJx4a65c ∈ cWs := cWs_i3 109 rfl
set_option maxRecDepth 20000 in
theorem ci_Jx4a65c : Cond.instantiable RJx4a65c 3 ∈ cWs := cWs_i3 110 rfl
set_option maxRecDepth 20000 in
theorem cz_X6_11 : cCtor RX6 11 yJx4a65c_init_da8c8 cJx4a65c_init_da8c8 1 0 := ⟨⟨by decide, by decide⟩, cWs_i3 114 rfl, cWs_i0 58 rfl, cWs_i3 115 rfl, cWs_i3 104 rfl, by decide +kernel, rfl⟩
set_option maxRecDepth 20000 in
theorem co_X7_3 : Cond.methodLink RX7 3 objectInit ∈ cWs := cWs_i3 123 rfl
set_option maxRecDepth 20000 in
theorem cx_X7_15 : Cond.classLink RX7 15 "[[I" ∈ cWs := cWs_i3 124 rfl
set_option maxRecDepth 20000 in
theorem cn_X7_48 : Cond.classLink RX7 48 RJx4a65c ∈ cWs := cWs_i3 125 rfl
set_option maxRecDepth 20000 in
theorem cz_X7_144 : cCtor RX7 144 yJx4a65c_init_da8c8 cJx4a65c_init_da8c8 1 0 := ⟨⟨by decide, by decide⟩, cWs_i3 128 rfl, cWs_i0 58 rfl, cWs_i3 115 rfl, cWs_i3 104 rfl, by decide +kernel, rfl⟩
set_option maxRecDepth 20000 in
theorem co_X8_1 : Cond.methodLink RX8 1 objectInit ∈ cWs := cWs_i3 140 rfl
set_option maxRecDepth 20000 in
theorem cn_X8_7 : Cond.classLink RX8 7 RJx4a65c ∈ cWs := cWs_i3 141 rfl
set_option maxRecDepth 20000 in
theorem cz_X8_9 : cCtor RX8 9 yJx4a65c_init_da8c8 cJx4a65c_init_da8c8 1 0 := ⟨⟨by decide, by decide⟩, cWs_i3 143 rfl, cWs_i0 58 rfl, cWs_i3 115 rfl, cWs_i3 104 rfl, by decide +kernel, rfl⟩
set_option maxRecDepth 20000 in
theorem cn_X8_67 : Cond.classLink RX8 67 RX5 ∈ cWs := cWs_i3 157 rfl
set_option maxRecDepth 20000 in
theorem ci_X5 : Cond.instantiable RX5 10 ∈ cWs := cWs_i3 158 rfl
set_option maxRecDepth 20000 in
theorem cz_X8_83 : cCtor RX8 83 yX5_init cX5_init 3 1 := ⟨⟨by decide, by decide⟩, cWs_i3 159 rfl, cWs_i0 104 rfl, cWs_i4 0 rfl, cWs_i3 68 rfl, by decide +kernel, rfl⟩
set_option maxRecDepth 20000 in
theorem co_X10_3 : Cond.methodLink RX10 3 objectInit ∈ cWs := cWs_i4 22 rfl
set_option maxRecDepth 20000 in
theorem cn_X10_9 : Cond.classLink RX10 9 RJx4a65c ∈ cWs := cWs_i4 23 rfl
set_option maxRecDepth 20000 in
theorem cz_X10_11 : cCtor RX10 11 yJx4a65c_init_da8c8 cJx4a65c_init_da8c8 1 0 := ⟨⟨by decide, by decide⟩, cWs_i4 25 rfl, cWs_i0 58 rfl, cWs_i3 115 rfl, cWs_i3 104 rfl, by decide +kernel, rfl⟩
set_option maxRecDepth 20000 in
theorem cn_X10_13 : Cond.classLink RX10 13 RX10 ∈ cWs := cWs_i4 46 rfl
set_option maxRecDepth 20000 in
theorem ci_X10 : Cond.instantiable RX10 2 ∈ cWs := cWs_i4 47 rfl
set_option maxRecDepth 20000 in
theorem cz_X10_57 : cCtor RX10 57 yX10_init cX10_init 2 1 := ⟨⟨by decide, by decide⟩, cWs_i4 49 rfl, cWs_i0 120 rfl, cWs_i4 50 rfl, cWs_i4 21 rfl, by decide +kernel, rfl⟩
set_option maxRecDepth 20000 in
theorem co_X11_1 : Cond.methodLink RX11 1 objectInit ∈ cWs := cWs_i4 83 rfl
set_option maxRecDepth 20000 in
theorem cn_X11_7 : Cond.classLink RX11 7 RX3 ∈ cWs := cWs_i4 84 rfl
set_option maxRecDepth 20000 in
theorem ci_X3 : Cond.instantiable RX3 9 ∈ cWs := cWs_i4 85 rfl
set_option maxRecDepth 20000 in
theorem cn_X11_16 : Cond.classLink RX11 16 RX0 ∈ cWs := cWs_i4 87 rfl
set_option maxRecDepth 20000 in
theorem ci_X0 : Cond.instantiable RX0 5 ∈ cWs := cWs_i4 88 rfl
set_option maxRecDepth 20000 in
theorem cn_X11_23 : Cond.classLink RX11 23 RJx4a65c ∈ cWs := cWs_i4 90 rfl
set_option maxRecDepth 20000 in
theorem cn_X11_30 : Cond.classLink RX11 30 RX10 ∈ cWs := cWs_i4 92 rfl
set_option maxRecDepth 20000 in
theorem cn_X11_58 : Cond.classLink RX11 58 RX6 ∈ cWs := cWs_i4 100 rfl
set_option maxRecDepth 20000 in
theorem ci_X6 : Cond.instantiable RX6 5 ∈ cWs := cWs_i4 101 rfl
set_option maxRecDepth 20000 in
theorem cn_X11_68 : Cond.classLink RX11 68 RX7 ∈ cWs := cWs_i4 104 rfl
set_option maxRecDepth 20000 in
theorem ci_X7 : Cond.instantiable RX7 7 ∈ cWs := cWs_i4 105 rfl
set_option maxRecDepth 20000 in
theorem cn_X11_75 : Cond.classLink RX11 75 RX1 ∈ cWs := cWs_i4 107 rfl
set_option maxRecDepth 20000 in
theorem ci_X1 : Cond.instantiable RX1 14 ∈ cWs := cWs_i4 108 rfl
set_option maxRecDepth 20000 in
theorem cz_X11_25 : cCtor RX11 25 yJx4a65c_init_da8c8 cJx4a65c_init_da8c8 1 0 := ⟨⟨by decide, by decide⟩, cWs_i4 117 rfl, cWs_i0 58 rfl, cWs_i3 115 rfl, cWs_i3 104 rfl, by decide +kernel, rfl⟩
set_option maxRecDepth 20000 in
theorem cz_X11_32 : cCtor RX11 32 yX10_init cX10_init 2 1 := ⟨⟨by decide, by decide⟩, cWs_i4 118 rfl, cWs_i0 120 rfl, cWs_i4 50 rfl, cWs_i4 21 rfl, by decide +kernel, rfl⟩
set_option maxRecDepth 20000 in
theorem cz_X11_77 : cCtor RX11 77 yX1_init cX1_init 2 1 := ⟨⟨by decide, by decide⟩, cWs_i4 121 rfl, cWs_i1 131 rfl, cWs_i4 122 rfl, cWs_i0 24 rfl, by decide +kernel, rfl⟩
set_option maxRecDepth 20000 in
theorem ce_X11_100 : Cond.classLink RX11 100 "java/lang/IllegalArgumentException" ∈ cWs := cWs_i4 125 rfl
set_option maxRecDepth 20000 in
theorem cei_1 : Cond.initialized "java/lang/IllegalArgumentException" ∈ cWs := cWs_i4 126 rfl
set_option maxRecDepth 20000 in
theorem ce_X11_116 : Cond.classLink RX11 116 "java/lang/IllegalStateException" ∈ cWs := cWs_i4 127 rfl
set_option maxRecDepth 20000 in
theorem cei_2 : Cond.initialized "java/lang/IllegalStateException" ∈ cWs := cWs_i4 128 rfl
set_option maxRecDepth 20000 in
theorem ce_X11_269 : Cond.classLink RX11 269 "java/lang/IndexOutOfBoundsException" ∈ cWs := cWs_i4 149 rfl
set_option maxRecDepth 20000 in
theorem cei_3 : Cond.initialized "java/lang/IndexOutOfBoundsException" ∈ cWs := cWs_i4 150 rfl
set_option maxRecDepth 20000 in
theorem ct_X11 : Cond.initialized RX11 ∈ cWs := cWs_i4 154 rfl
set_option maxRecDepth 20000 in
theorem cn_X11_265 : Cond.classLink RX11 265 RX8 ∈ cWs := cWs_i5 46 rfl
set_option maxRecDepth 20000 in
theorem ci_X8 : Cond.instantiable RX8 4 ∈ cWs := cWs_i5 47 rfl
set_option maxRecDepth 20000 in
theorem cz_X11_519 : cCtor RX11 519 yX8_init cX8_init 2 1 := ⟨⟨by decide, by decide⟩, cWs_i5 49 rfl, cWs_i0 90 rfl, cWs_i5 50 rfl, cWs_i3 144 rfl, by decide +kernel, rfl⟩
set_option maxRecDepth 20000 in
theorem cn_X11_259 : Cond.classLink RX11 259 RX2 ∈ cWs := cWs_i5 52 rfl
set_option maxRecDepth 20000 in
theorem cz_X11_512 : cCtor RX11 512 yX2_init cX2_init 2 1 := ⟨⟨by decide, by decide⟩, cWs_i5 64 rfl, cWs_i0 72 rfl, cWs_i2 64 rfl, cWs_i2 55 rfl, by decide +kernel, rfl⟩
set_option maxRecDepth 20000 in
theorem ce_L_73 : Cond.classLink RL 73 "java/lang/IllegalStateException" ∈ cWs := cWs_i6 128 rfl
set_option maxRecDepth 20000 in
theorem cn_L_69 : Cond.classLink RL 69 RX11 ∈ cWs := cWs_i7 148 rfl
set_option maxRecDepth 20000 in
theorem ci_X11 : Cond.instantiable RX11 19 ∈ cWs := cWs_i7 149 rfl
set_option maxRecDepth 20000 in
theorem cz_L_264 : cCtor RL 264 yX11_init cX11_init 1 0 := ⟨⟨by decide, by decide⟩, cWs_i7 151 rfl, cWs_i4 154 rfl, cWs_i7 152 rfl, cWs_i4 123 rfl, by decide +kernel, rfl⟩
set_option maxRecDepth 20000 in
theorem ce_L_320 : Cond.classLink RL 320 "java/lang/IndexOutOfBoundsException" ∈ cWs := cWs_i8 22 rfl
set_option maxRecDepth 20000 in
theorem cmmax_X7_215 : Cond.methodLink RX7 215 Lib.Math.max.name ∈ cWs := cWs_i0 138 rfl
set_option maxRecDepth 20000 in
theorem cmmax_X4_57 : Cond.methodLink RX4 57 Lib.Math.max.name ∈ cWs := cWs_i1 13 rfl
set_option maxRecDepth 20000 in
theorem cmmax_X6_43 : Cond.methodLink RX6 43 Lib.Math.max.name ∈ cWs := cWs_i1 102 rfl
set_option maxRecDepth 20000 in
theorem cmmax_J8_194 : Cond.methodLink RJ8 194 Lib.Math.max.name ∈ cWs := cWs_i2 80 rfl
set_option maxRecDepth 20000 in
theorem cmmax_Jx4a65c_79 : Cond.methodLink RJx4a65c 79 Lib.Math.max.name ∈ cWs := cWs_i2 97 rfl
set_option maxRecDepth 20000 in
theorem cmmax_X10_60 : Cond.methodLink RX10 60 Lib.Math.max.name ∈ cWs := cWs_i4 48 rfl
set_option maxRecDepth 20000 in
theorem cmmax_s : Cond.static Lib.Math.max.name ∈ cWs := cWs_i0 139 rfl
set_option maxRecDepth 20000 in
theorem cmmax_c : Cond.code Lib.Math.max.name Lib.Math.max.code 2 (some .int) ∈ cWs := cWs_i0 141 rfl
set_option maxRecDepth 20000 in
theorem cmmin_X4_63 : Cond.methodLink RX4 63 Lib.Math.min.name ∈ cWs := cWs_i1 45 rfl
set_option maxRecDepth 20000 in
theorem cmmin_X1_95 : Cond.methodLink RX1 95 Lib.Math.min.name ∈ cWs := cWs_i1 141 rfl
set_option maxRecDepth 20000 in
theorem cmmin_J7_304 : Cond.methodLink RJ7 304 Lib.Math.min.name ∈ cWs := cWs_i2 87 rfl
set_option maxRecDepth 20000 in
theorem cmmin_X10_51 : Cond.methodLink RX10 51 Lib.Math.min.name ∈ cWs := cWs_i4 35 rfl
set_option maxRecDepth 20000 in
theorem cmmin_s : Cond.static Lib.Math.min.name ∈ cWs := cWs_i1 46 rfl
set_option maxRecDepth 20000 in
theorem cmmin_c : Cond.code Lib.Math.min.name Lib.Math.min.code 2 (some .int) ∈ cWs := cWs_i1 47 rfl
set_option maxRecDepth 20000 in
theorem cmm_i : Cond.initialized "java/lang/Math" ∈ cWs := cWs_i0 140 rfl
set_option maxRecDepth 20000 in
theorem czn_X11_18 : cCtorN RX11 18 yX0_init cX0_init 1 0 := ⟨⟨by decide, by decide⟩, by decide, cWs_i2 27 rfl, cWs_i4 116 rfl, cWs_i0 11 rfl, by decide +kernel, rfl⟩
set_option maxRecDepth 20000 in
theorem czn_X11_60 : cCtorN RX11 60 yX6_init cX6_init 1 0 := ⟨⟨by decide, by decide⟩, by decide, cWs_i1 111 rfl, cWs_i4 119 rfl, cWs_i3 116 rfl, by decide +kernel, rfl⟩
set_option maxRecDepth 20000 in
theorem czn_X11_70 : cCtorN RX11 70 yX7_init cX7_init 1 0 := ⟨⟨by decide, by decide⟩, by decide, cWs_i1 1 rfl, cWs_i4 120 rfl, cWs_i3 122 rfl, by decide +kernel, rfl⟩
set_option maxRecDepth 20000 in
theorem czn_X11_9 : cCtorN RX11 9 yX3_init cX3_init 1 0 := ⟨⟨by decide, by decide⟩, by decide, cWs_i2 151 rfl, cWs_i4 115 rfl, cWs_i2 133 rfl, by decide +kernel, rfl⟩
set_option maxRecDepth 20000 in
theorem czn_X0_23 : cCtorN RX0 23 yX9_init cX9_init 1 0 := ⟨⟨by decide, by decide⟩, by decide, cWs_i0 18 rfl, cWs_i0 21 rfl, cWs_i0 0 rfl, by decide +kernel, rfl⟩
set_option maxRecDepth 20000 in
theorem czn_X3_11 : cCtorN RX3 11 yX9_init cX9_init 1 0 := ⟨⟨by decide, by decide⟩, by decide, cWs_i0 18 rfl, cWs_i0 21 rfl, cWs_i0 0 rfl, by decide +kernel, rfl⟩
set_option maxRecDepth 20000 in
theorem csf_mod : Cond.sameField "java/util/ArrayList" "java/util/AbstractList" "modCount" "I" ∈ cWs := cWs_i2 113 rfl
set_option maxRecDepth 20000 in
theorem cl_mod12 : Cond.fieldLink RJx4a65c 63 "java/util/ArrayList" "modCount" "I" ∈ cWs := cWs_i2 112 rfl
set_option maxRecDepth 20000 in
theorem cl_modA : Cond.fieldLink RJxc12de 7 "java/util/AbstractList" "modCount" "I" ∈ cWs := cWs_i3 100 rfl
set_option maxRecDepth 20000 in
theorem cx_J7_2 : Cond.classLink RJ7 2 "java/lang/Object" ∈ cWs := cWs_i2 86 rfl
set_option maxRecDepth 20000 in
theorem cl_dflt_39 : Cond.fieldLink RJx4a65c 39 RJx4a65c "DEFAULTCAPACITY_EMPTY_ELEMENTDATA" "[Ljava/lang/Object;" ∈ cWs := cWs_i2 96 rfl
set_option maxRecDepth 20000 in
theorem cx_Jx4a65c_7 : Cond.classLink RJx4a65c 7 "java/lang/Object" ∈ cWs := cWs_i2 98 rfl
section CG4
variable {p : Program} {l : Launch} {e : Env} {R : Room} {s : State} {m : MethodId} {args : Array Value} {below : List Frame} {meth : Method} {c : Code} {A : Nat → Prop} {D : va_G} {Y : cY} {nL : Nat} {Q : State → Prop} {cells slots cells' slots' : Nat}
variable {pc : Nat} {lv : List (Nat × Value)} {st : List Value} {S : cS}
theorem cg_cs (hc : cells = cells') (hs : slots = slots') (k : cG p l e R s m args below meth c A D Y nL Q cells' slots' pc lv st S) : cG p l e R s m args below meth c A D Y nL Q cells slots pc lv st S := by subst hc; subst hs; exact k
/-- the pool by a name of its own -/
theorem cg_nm (k : ∀ T, T = S → cG p l e R s m args below meth c A D Y nL Q cells slots pc lv st T) : cG p l e R s m args below meth c A D Y nL Q cells slots pc lv st S := k S rfl
theorem cg_astore_n {cc : ByteArray} {tp dp : Nat} {ret : Option FieldType} {own : String} {j : Fin 4} {i x : Nat} {lv' : List (Nat × Value)} (C : cC p s m args meth c cc nL ret A D Y tp dp own) (hi : (j : Nat) = i) (hn : i < nL) (h : (i, Value.ref x) :: lv.filter (fun q => !(q.1 == i) && !(q.1 + 1 == i && q.2.category == 2)) = lv') (d : decode cc pc = .ok (.astore_n j, 1)) (kk : cG p l e R s m args below meth c A D Y nL Q cells slots (pc + 1) lv' st S) : cG p l e R s m args below meth c A D Y nL Q cells slots pc lv (.ref x :: st) S := fun H locs ls hP hD hS hl => lv_astore_n C.1 C.2.1 d hi hl hn h (fun ls' hl' => kk H locs ls' hP hD hS hl')
theorem cg_astore {cc : ByteArray} {tp dp : Nat} {ret : Option FieldType} {own : String} {i x : Nat} {lv' : List (Nat × Value)} (C : cC p s m args meth c cc nL ret A D Y tp dp own) (hn : i < nL) (h : (i, Value.ref x) :: lv.filter (fun q => !(q.1 == i) && !(q.1 + 1 == i && q.2.category == 2)) = lv') (d : decode cc pc = .ok (.astore i, 2)) (kk : cG p l e R s m args below meth c A D Y nL Q cells slots (pc + 2) lv' st S) : cG p l e R s m args below meth c A D Y nL Q cells slots pc lv (.ref x :: st) S := fun H locs ls hP hD hS hl => lv_astore C.1 C.2.1 d hl hn h (fun ls' hl' => kk H locs ls' hP hD hS hl')
end CG4
