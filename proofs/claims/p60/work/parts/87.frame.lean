/-! what a call leaves alone: every old cell outside of F is as it was -/
def cSub (S T : cS) (F : Nat → Prop) : Prop := ∀ a, a ∈ cL S → (a ∈ cL T ∧ cK T a = cK S a ∧ cn T a = cn S a) ∧ (¬ F a → (∀ q, ci T q a = ci S q a ∧ cr T q a = cr S q a ∧ cw T q a = cw S q a) ∧ cI T a = cI S a ∧ cJ T a = cJ S a ∧ cO T a = cO S a)
section FR
variable {S T U : cS} {F G : Nat → Prop}
theorem sub_rf : cSub S S F := fun a h => ⟨⟨h, rfl, rfl⟩, fun _ => ⟨fun _ => ⟨rfl, rfl, rfl⟩, rfl, rfl, rfl⟩⟩
theorem sub_tr (h1 : cSub S T F) (h2 : cSub T U G) (h : ∀ a, a ∈ cL S → G a → F a) : cSub S U F := by
  intro a ha
  obtain ⟨⟨x1, x2, x3⟩, x4⟩ := h1 a ha
  obtain ⟨⟨y1, y2, y3⟩, y4⟩ := h2 a x1
  refine ⟨⟨y1, y2.trans x2, y3.trans x3⟩, fun hF => ?_⟩
  obtain ⟨z1, z2, z3, z4⟩ := x4 hF
  obtain ⟨w1, w2, w3, w4⟩ := y4 (fun q => hF (h a ha q))
  exact ⟨fun q => ⟨(w1 q).1.trans (z1 q).1, (w1 q).2.1.trans (z1 q).2.1, (w1 q).2.2.trans (z1 q).2.2⟩, w2.trans z2, w3.trans z3, w4.trans z4⟩
theorem sub_wk (h1 : cSub S T F) (h : ∀ a, a ∈ cL S → F a → G a) : cSub S T G := fun a ha => ⟨(h1 a ha).1, fun hG => (h1 a ha).2 (fun q => hG (h a ha q))⟩
theorem sub_Si {q b : Nat} {x : Int32} (h : F b) : cSub S (cSi S q b x) F := fun a ha => ⟨⟨ha, rfl, rfl⟩, fun hF => ⟨fun p => ⟨mU_ne (fun e => hF (e ▸ h)), rfl, rfl⟩, rfl, rfl, rfl⟩⟩
theorem sub_Sr {q b : Nat} {x : Option Nat} (h : F b) : cSub S (cSr S q b x) F := fun a ha => ⟨⟨ha, rfl, rfl⟩, fun hF => ⟨fun p => ⟨rfl, mU_ne (fun e => hF (e ▸ h)), rfl⟩, rfl, rfl, rfl⟩⟩
theorem sub_Sw {q b : Nat} {x : Int64} (h : F b) : cSub S (cSw S q b x) F := fun a ha => ⟨⟨ha, rfl, rfl⟩, fun hF => ⟨fun p => ⟨rfl, rfl, mU_ne (fun e => hF (e ▸ h))⟩, rfl, rfl, rfl⟩⟩
theorem sub_SI {b k : Nat} {x : Int32} (h : F b) : cSub S (cSI S b k x) F := fun a ha => ⟨⟨ha, rfl, rfl⟩, fun hF => ⟨fun p => ⟨rfl, rfl, rfl⟩, mU_n (fun e => hF (e ▸ h)), rfl, rfl⟩⟩
theorem sub_SJ {b k : Nat} {x : Int64} (h : F b) : cSub S (cSJ S b k x) F := fun a ha => ⟨⟨ha, rfl, rfl⟩, fun hF => ⟨fun p => ⟨rfl, rfl, rfl⟩, rfl, mU_n (fun e => hF (e ▸ h)), rfl⟩⟩
theorem sub_SO {b k : Nat} {x : Option Nat} (h : F b) : cSub S (cSO S b k x) F := fun a ha => ⟨⟨ha, rfl, rfl⟩, fun hF => ⟨fun p => ⟨rfl, rfl, rfl⟩, rfl, rfl, mU_n (fun e => hF (e ▸ h))⟩⟩
theorem sub_RI {b : Nat} {r : Nat → Int32} (h : F b) : cSub S (cRI S b r) F := fun a ha => ⟨⟨ha, rfl, rfl⟩, fun hF => ⟨fun p => ⟨rfl, rfl, rfl⟩, sR_n (fun e => hF (e ▸ h)), rfl, rfl⟩⟩
theorem sub_RJ {b : Nat} {r : Nat → Int64} (h : F b) : cSub S (cRJ S b r) F := fun a ha => ⟨⟨ha, rfl, rfl⟩, fun hF => ⟨fun p => ⟨rfl, rfl, rfl⟩, rfl, sR_n (fun e => hF (e ▸ h)), rfl⟩⟩
theorem sub_RO {b : Nat} {r : Nat → Option Nat} (h : F b) : cSub S (cRO S b r) F := fun a ha => ⟨⟨ha, rfl, rfl⟩, fun hF => ⟨fun p => ⟨rfl, rfl, rfl⟩, rfl, rfl, sR_n (fun e => hF (e ▸ h))⟩⟩
theorem cm_nq {q a : Nat} (hq : q ∉ cL S) (ha : a ∈ cL S) : a ≠ q := fun e => hq (e ▸ ha)
theorem sub_N {q k : Nat} (hq : q ∉ cL S) : cSub S (cNew S q k) F := fun a ha => ⟨⟨List.mem_append_left _ ha, upR_n (cm_nq hq ha), rfl⟩, fun _ => ⟨fun p => ⟨if_neg (cm_nq hq ha), if_neg (cm_nq hq ha), if_neg (cm_nq hq ha)⟩, rfl, rfl, rfl⟩⟩
theorem sub_A {q k n : Nat} (hq : q ∉ cL S) : cSub S (cNewA S q k n) F := fun a ha => ⟨⟨List.mem_append_left _ ha, upR_n (cm_nq hq ha), upR_n (cm_nq hq ha)⟩, fun _ => ⟨fun p => ⟨rfl, rfl, rfl⟩, upR_n (cm_nq hq ha), upR_n (cm_nq hq ha), upR_n (cm_nq hq ha)⟩⟩
/-- what a step keeps of one cell -/
theorem sub_A1 {a k : Nat} (h : cSub S T F) (ha : cA S a k) : cA T a k := ⟨(h a ha.1).1.1, (h a ha.1).1.2.1.trans ha.2⟩
theorem sub_cn {a k : Nat} (h : cSub S T F) (ha : cA S a k) : cn T a = cn S a := (h a ha.1).1.2.2
theorem sub_ci {a k q : Nat} (h : cSub S T F) (ha : cA S a k) (hF : ¬ F a) : ci T q a = ci S q a := (((h a ha.1).2 hF).1 q).1
theorem sub_cr {a k q : Nat} (h : cSub S T F) (ha : cA S a k) (hF : ¬ F a) : cr T q a = cr S q a := (((h a ha.1).2 hF).1 q).2.1
theorem sub_cw {a k q : Nat} (h : cSub S T F) (ha : cA S a k) (hF : ¬ F a) : cw T q a = cw S q a := (((h a ha.1).2 hF).1 q).2.2
theorem sub_cI {a k : Nat} (h : cSub S T F) (ha : cA S a k) (hF : ¬ F a) : cI T a = cI S a := ((h a ha.1).2 hF).2.1
theorem sub_cJ {a k : Nat} (h : cSub S T F) (ha : cA S a k) (hF : ¬ F a) : cJ T a = cJ S a := ((h a ha.1).2 hF).2.2.1
theorem sub_cO {a k : Nat} (h : cSub S T F) (ha : cA S a k) (hF : ¬ F a) : cO T a = cO S a := ((h a ha.1).2 hF).2.2.2
/-- cells of two kinds are two -/
theorem cA_ne {a b k j : Nat} (ha : cA S a k) (hb : cA S b j) (h : k ≠ j) : a ≠ b := fun e => h (ha.2.symm.trans (e ▸ hb.2))
theorem tSg_sub {t n : Nat} {P : Nat → Nat} (h : cSub S T F) (ht : tSg S t n P) (h1 : ¬ F t) (h2 : ∀ a, cr S 288 t = some a → ¬ F a) : tSg T t n P := by
  obtain ⟨k1, k2, k3, a, k4, k5, k6, k7⟩ := ht
  exact ⟨sub_A1 h k1, k2, (sub_ci h k1 h1).trans k3, a, (sub_cr h k1 h1).trans k4, sub_A1 h k5, (sub_cn h k5).trans k6, by rw [sub_cI h k5 (h2 a k4)]; exact k7⟩
/-! a new text -/
/-- a text without signs and without tokens, made by the call: all its cells are new -/
def tNew (S T : cS) (t : Nat) : Prop := cA T t 9 ∧ ci T 289 t = nI 0 ∧ ci T 292 t = nI 0 ∧ ∃ a b c, (a ∉ cL S ∧ b ∉ cL S ∧ c ∉ cL S) ∧ (cr T 288 t = some a ∧ cA T a 14 ∧ cn T a = 40) ∧ (cr T 290 t = some b ∧ cA T b 15 ∧ cn T b = 0) ∧ (cr T 291 t = some c ∧ cA T c 14 ∧ cn T c = 0) ∧ a ≠ c
end FR
