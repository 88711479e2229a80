/-! the class: a segment is made -/
theorem ls0_F {S : cS} {dp a kk z : Nat} {l : List Nat} (g : lsT S dp a kk l 0) (hz : lsF S dp a z) : z = a := by
  obtain ⟨-, -, -, -, -, -, c, hc, hx⟩ := g
  rcases hz with y | ⟨y, y2⟩
  · exact y
  · obtain rfl : c = z := Option.some.inj (hc.symm.trans y)
    rcases hx with hx | hx
    · exact absurd hx.1 y2
    · omega
section MS
variable {S T : cS} {ρ ρ' : Nat → Nat} {dp x A n b bm : Nat} {bs : List Nat} {L : List Dc}
theorem q_segInit {Q : cS → Prop} {mc ms : Nat} {y : Int32} (hA : cA S A 8) (hdp : dpO dp S) (hm : 3 ≤ mc) (hs : 9 ≤ ms) (h : ∀ T dl w0 w1, cSub S T (fun z => z = A) → dl ∉ cL S → w0 ∉ cL S → w1 ∉ cL S → dl ≠ w0 → dl ≠ w1 → w0 ≠ w1 → lsT T dp dl 0 [] 0 → lsT T dp w0 5 [] 0 → lsT T dp w1 5 [] 0 → cr T 257 A = some dl → cr T 258 A = some w0 → cr T 259 A = some w1 → ci T 256 A = y → Q T) : k_X8_init Q dp mc ms A y S := by
  unfold k_X8_init
  refine ⟨⟨by omega, by omega⟩, fun q1 hq1 S2 e2 => ⟨⟨by omega, by omega⟩, ?_⟩⟩
  have s2 : cSub S S2 (fun z => z = A) := e2 ▸ sub_N hq1
  refine q_linit (kk := 0) ⟨hm_No e2, hk_No e2⟩ dp_O (Or.inl rfl) (fun S3 s3 l3 => ?_)
  have l3 := l3 (hi_No e2)
  have s13 : cSub S S3 (fun z => z = A) := sub_tr s2 s3 (fun a ha z => absurd z (cm_nq hq1 ha))
  have A3 := sub_A1 s13 hA
  refine ⟨A3, fun S4 e4 => ⟨⟨by omega, by omega⟩, fun q5 hq5 S6 e6 => ⟨⟨by omega, by omega⟩, ?_⟩⟩⟩
  have s4 : cSub S3 S4 (fun z => z = A) := e4 ▸ sub_Sr rfl
  have s14 := sub_tr s13 s4 (fun _ _ z => z)
  have s6 : cSub S4 S6 (fun z => z = A) := e6 ▸ sub_N hq5
  have s16 := sub_tr s14 s6 (fun _ _ z => z)
  refine q_linit (kk := 5) ⟨hm_No e6, hk_No e6⟩ dp_O (Or.inr (Or.inr (Or.inr (Or.inl rfl)))) (fun S7 s7 l7 => ?_)
  have l7 := l7 (hi_No e6)
  have s17 : cSub S S7 (fun z => z = A) := sub_tr s16 s7 (fun a ha z => absurd (s14 a ha).1.1 (fun w => hq5 (z ▸ w)))
  have A7 := sub_A1 s17 hA
  refine ⟨A7, fun S8 e8 => ⟨⟨by omega, by omega⟩, fun q9 hq9 S10 e10 => ⟨⟨by omega, by omega⟩, ?_⟩⟩⟩
  have s8 : cSub S7 S8 (fun z => z = A) := e8 ▸ sub_Sr rfl
  have s18 := sub_tr s17 s8 (fun _ _ z => z)
  have s10 : cSub S8 S10 (fun z => z = A) := e10 ▸ sub_N hq9
  have s110 := sub_tr s18 s10 (fun _ _ z => z)
  refine q_linit (kk := 5) ⟨hm_No e10, hk_No e10⟩ dp_O (Or.inr (Or.inr (Or.inr (Or.inl rfl)))) (fun S11 s11 l11 => ?_)
  have l11 := l11 (hi_No e10)
  have s111 : cSub S S11 (fun z => z = A) := sub_tr s110 s11 (fun a ha z => absurd (s18 a ha).1.1 (fun w => hq9 (z ▸ w)))
  have A11 := sub_A1 s111 hA
  refine ⟨A11, fun S12 e12 => ?_⟩
  have s12 : cSub S11 S12 (fun z => z = A) := e12 ▸ sub_Sr rfl
  have A12 := sub_A1 s12 A11
  refine ⟨A12, fun S13 e13 => ⟨⟨by omega, by omega⟩, ?_⟩⟩
  have s13' : cSub S12 S13 (fun z => z = A) := e13 ▸ sub_Si rfl
  have m1 : q1 ∈ cL S4 := (s4 q1 l3.1.1).1.1
  have m5 : q5 ∈ cL S8 := (s8 q5 l7.1.1).1.1
  have m15 : q1 ∈ cL S8 := (s8 q1 (s7 q1 (s6 q1 m1).1.1).1.1).1.1
  have d15 : q1 ≠ q5 := cm_nq hq5 m1
  have d19 : q1 ≠ q9 := cm_nq hq9 m15
  have d59 : q5 ≠ q9 := cm_nq hq9 m5
  have nA : ∀ {a k : Nat} {U : cS}, cA U A 8 → cA U a k → k ≠ 8 → ¬ a = A := fun hA ha hk => cA_ne ha hA hk
  -- the lists go on
  have keep : ∀ {U W : cS} {F : Nat → Prop} {a kk : Nat}, lsT U dp a kk [] 0 → cSub U W F → ¬ F a → lsT W dp a kk [] 0 := fun g s hF => lsT_sub s g (fun z hz => by rw [ls0_F g hz]; exact hF)
  have l3' : lsT S13 dp q1 0 [] 0 := by
    have a1 := keep l3 s4 (nA A3 l3.1 (by decide))
    have a2 := keep a1 s6 (nA (sub_A1 s4 A3) a1.1 (by decide))
    have a3 := keep a2 s7 d15
    have a4 := keep a3 s8 (nA A7 a3.1 (by decide))
    have a5 := keep a4 s10 (nA (sub_A1 s8 A7) a4.1 (by decide))
    have a6 := keep a5 s11 d19
    have a7 := keep a6 s12 (nA A11 a6.1 (by decide))
    exact keep a7 s13' (nA A12 a7.1 (by decide))
  have l7' : lsT S13 dp q5 5 [] 0 := by
    have a4 := keep l7 s8 (nA A7 l7.1 (by decide))
    have a5 := keep a4 s10 (nA (sub_A1 s8 A7) a4.1 (by decide))
    have a6 := keep a5 s11 d59
    have a7 := keep a6 s12 (nA A11 a6.1 (by decide))
    exact keep a7 s13' (nA A12 a7.1 (by decide))
  have l11' : lsT S13 dp q9 5 [] 0 := by
    have a7 := keep l11 s12 (nA A11 l11.1 (by decide))
    exact keep a7 s13' (nA A12 a7.1 (by decide))
  have nAq : ∀ {q : Nat} {U : cS}, q ∉ cL U → A ∈ cL U → ¬ A = q := fun hq hA => cm_nq hq hA
  have r4 : cr S8 257 A = some q1 := hr_Sr_q e8 (by decide) ((sub_cr s7 (sub_A1 s6 (sub_A1 s4 A3)) (nAq hq5 (sub_A1 s4 A3).1)).trans (hr_N e6 (nAq hq5 (sub_A1 s4 A3).1) (hr_Sr_s e4)))
  have r8 : cr S8 258 A = some q5 := hr_Sr_s e8
  have A8 := sub_A1 s8 A7
  have up : ∀ q, q ≠ 259 → cr S13 q A = cr S8 q A := fun q hq => (hr_Si e13 (hr_Sr_q e12 hq rfl)).trans ((sub_cr s11 (sub_A1 s10 A8) (nAq hq9 A8.1)).trans (hr_N e10 (nAq hq9 A8.1) rfl))
  exact h S13 q1 q5 q9 (sub_tr (sub_tr s111 s12 (fun _ _ z => z)) s13' (fun _ _ z => z)) hq1 (fun z => hq5 (s14 _ z).1.1) (fun z => hq9 (s18 _ z).1.1) d15 d19 d59 l3' l7' l11' ((up _ (by decide)).trans r4) ((up _ (by decide)).trans r8) (hr_Si e13 (hr_Sr_s e12)) (hi_Si_s e13)
/-- a new segment, its documents there, without words yet -/
def sgN (S : cS) (ρ : Nat → Nat) (dp A n w0 w1 : Nat) (ds : List Nat) : Prop := cA S A 8 ∧ ρ A = 8 ∧ ci S 256 A = nI n ∧ (∃ dl md, cr S 257 A = some dl ∧ lsT S dp dl 0 ds md ∧ ∀ z, lsF S dp dl z → ρ z = 8) ∧ cr S 258 A = some w0 ∧ cr S 259 A = some w1
set_option maxHeartbeats 1000000 in
theorem q_newSegment {Q : Nat → cS → Prop} {mc ms : Nat} (hx : cA S x 11) (hρ : ρ x = 1) (hdp : dpO dp S) (h366 : ci S 366 x = nI n) (g : lsT S dp b 0 bs bm) (hK : bs.length ≤ 100) (hm : bs.length + 6 ≤ mc) (hs : 6 * bs.length + 53 ≤ ms)
    (h : ∀ T ρ' A w0 w1, fr S T ρ ρ' [1] → A ∉ cL S → sgN T ρ' dp A n w0 w1 bs → lsT T dp w0 5 [] 0 → lsT T dp w1 5 [] 0 → ρ' w0 = 81 → ρ' w1 = 84 → ci T 366 x = nI (n + 1) → (∀ q, q ≠ 366 → ci T q x = ci S q x) → (∀ q, cr T q x = cr S q x) → ρ' x = 1 → Q A T) : k_X11_newSegment Q dp mc ms x b S := by
  unfold k_X11_newSegment
  refine ⟨⟨by omega, by omega⟩, fun A hA S2 e2 => ?_⟩
  have s2 : cSub S S2 (fun _ => False) := e2 ▸ sub_N hA
  have nf : ¬ False := fun z => z
  have A2 : cA S2 A 8 := ⟨hm_No e2, hk_No e2⟩
  refine ⟨sub_A1 s2 hx, 3, 9, by omega, by omega, ?_⟩
  rw [(sub_ci s2 hx nf).trans h366]
  refine q_segInit A2 dp_O (Nat.le_refl _) (Nat.le_refl _) (fun S5 dl w0 w1 s5 n1 n2 n3 d1 d2 d3 l1 l2 l3 r1 r2 r3 i1 => ?_)
  have s15 : cSub S S5 (fun _ => False) := sub_tr s2 s5 (fun a ha z => absurd z (cm_nq hA ha))
  have x5 := sub_A1 s15 hx
  refine ⟨x5, x5, fun S6 e6 => ?_⟩
  rw [(sub_ci s15 hx nf).trans h366, nI_add] at e6
  have s6 : cSub S5 S6 (fun z => z = x) := e6 ▸ sub_Si rfl
  have s16 : cSub S S6 (fun z => z = x) := sub_tr (sub_wk s15 (fun _ _ z => z.elim)) s6 (fun _ _ z => z)
  have out : ∀ {a : Nat}, a ∉ cL S2 → a ∉ cL S := fun h z => h (s2 _ z).1.1
  have nx : ∀ {a k : Nat}, cA S5 a k → k ≠ 11 → ¬ a = x := fun ha hk => cA_ne ha x5 hk
  have keep : ∀ {U W : cS} {F : Nat → Prop} {a kk : Nat}, lsT U dp a kk [] 0 → cSub U W F → ¬ F a → lsT W dp a kk [] 0 := fun g s hF => lsT_sub s g (fun z hz => by rw [ls0_F g hz]; exact hF)
  have l1' := keep l1 s6 (nx l1.1 (by decide))
  have l2' := keep l2 s6 (nx l2.1 (by decide))
  have l3' := keep l3 s6 (nx l3.1 (by decide))
  have A5 := sub_A1 s5 A2
  have A6 := sub_A1 s6 A5
  obtain ⟨ρ', hρ'⟩ : ∃ r : Nat → Nat, r = fun a => if a ∈ cL S then ρ a else if a = w0 then 81 else if a = w1 then 84 else 8 := ⟨_, rfl⟩
  have oρ : ∀ a, a ∈ cL S → ρ' a = ρ a := fun a ha => by rw [hρ']; exact if_pos ha
  have nρ : ∀ a, a ∉ cL S → a ≠ w0 → a ≠ w1 → ρ' a = 8 := fun a h0 h1 h2 => by
    rw [hρ']
    show (if a ∈ cL S then ρ a else if a = w0 then 81 else if a = w1 then 84 else 8) = 8
    rw [if_neg h0, if_neg h1, if_neg h2]
  have ρw0 : ρ' w0 = 81 := by
    rw [hρ']
    show (if w0 ∈ cL S then ρ w0 else if w0 = w0 then 81 else if w0 = w1 then 84 else 8) = 81
    rw [if_neg (out n2), if_pos rfl]
  have ρw1 : ρ' w1 = 84 := by
    rw [hρ']
    show (if w1 ∈ cL S then ρ w1 else if w1 = w0 then 81 else if w1 = w1 then 84 else 8) = 84
    rw [if_neg (out n3), if_neg (Ne.symm d3), if_pos rfl]
  have w0A : cA S6 w0 12 := l2'.1
  unfold k_X11_newSegment_24L
  refine lfp_cnt bs.length (fun k y => ∃ S' md cd dd, cSub S6 S' (fun z => z ∉ cL S ∧ z ≠ w0 ∧ z ≠ w1 ∧ z ≠ A) ∧ lsT S' dp dl 0 (bs.take k) md ∧ (∀ z, lsF S' dp dl z → z ∉ cL S ∧ z ≠ w0 ∧ z ≠ w1 ∧ z ≠ A) ∧ (md = 0 ∨ 10 ≤ md) ∧ 2 * md ≤ 20 + 3 * k ∧ cd ≤ 4 + md / 5 ∧ dd ≤ 13 + 4 * md ∧ y = (b, A, nI k, cd, dd, S')) ?_ ⟨S6, 0, 0 + 1 + 3, 0 + 4 + 9, sub_rf, l1', fun z hz => ?_, Or.inl rfl, by omega, by omega, by omega, rfl⟩
  · rintro P k _ hk ⟨S', md, cd, dd, s', lk, tk, m10, hmd, hcd, hdd, rfl⟩ ih
    show k_X11_newSegment_24 Q dp mc ms _ b A (nI k) cd dd S'
    have sS' : cSub S S' (fun z => z = x) := sub_tr s16 s' (fun a ha z => absurd ha z.1)
    have nbx : ∀ z, lsF S dp b z → ¬ z = x := by
      intro z hz e
      subst e
      obtain ⟨g1, -, -, -, -, -, c, hc, hx'⟩ := g
      rcases hz with y | ⟨y, y2⟩
      · exact cA_ne hx g1 (by decide) y
      · obtain rfl : c = z := Option.some.inj (hc.symm.trans y)
        rcases hx' with hx' | hx'
        · exact y2 hx'.1
        · exact cA_ne hx'.2.2.1 hx (by decide) rfl
    have gb := lsT_sub sS' g nbx
    have B : cd ≤ mc ∧ dd ≤ ms := ⟨by omega, by omega⟩
    have A' := sub_A1 s' A6
    have rA : ∀ q, cr S' q A = cr S5 q A := fun q => (sub_cr s' A6 (fun z => z.2.2.2 rfl)).trans (sub_cr s6 A5 (nx A5 (by decide)))
    unfold k_X11_newSegment_24
    refine ⟨gb.1, B, q_lsize gb (pk_le bs.length k (fun z => ?_) (fun z => ?_))⟩
    · obtain rfl : k = bs.length := by omega
      rw [List.take_length] at lk
      have keepS : ∀ {a kk : Nat}, lsT S6 dp a kk [] 0 → (a = w0 ∨ a = w1) → lsT S' dp a kk [] 0 := fun g h => keep g s' (fun z => h.elim (fun e => z.2.1 e) (fun e => z.2.2.1 e))
      have frm : fr S S' ρ ρ' [1] := ⟨sub_wk sS' (fun a _ e => by rw [e, hρ]; decide), fun a ha _ => oρ a ha⟩
      have nxA : A ≠ w0 ∧ A ≠ w1 := ⟨cA_ne A5 l2.1 (by decide), cA_ne A5 l3.1 (by decide)⟩
      have xx : ∀ q, cr S' q x = cr S q x := fun q => by
        have h1 : cr S' q x = cr S6 q x := sub_cr s' (sub_A1 s16 hx) (fun z => z.1 hx.1)
        exact h1.trans ((hr_Si e6 rfl).trans (sub_cr s15 hx nf))
      have xi : ∀ q, q ≠ 366 → ci S' q x = ci S q x := fun q hq => (sub_ci s' (sub_A1 s16 hx) (fun z => z.1 hx.1)).trans ((hi_Si_q e6 hq rfl).trans (sub_ci s15 hx nf))
      have x366 : ci S' 366 x = nI (n + 1) := (sub_ci s' (sub_A1 s16 hx) (fun z => z.1 hx.1)).trans (hi_Si_s e6)
      have iA : ci S' 256 A = nI n := (sub_ci s' A6 (fun z => z.2.2.2 rfl)).trans ((sub_ci s6 A5 (nx A5 (by decide))).trans i1)
      refine ⟨B, h S' ρ' A w0 w1 frm hA ⟨A', nρ A hA nxA.1 nxA.2, iA, ⟨dl, md, (rA _).trans r1, lk, fun z hz => ?_⟩, (rA _).trans r2, (rA _).trans r3⟩ (keepS l2' (Or.inl rfl)) (keepS l3' (Or.inr rfl)) ρw0 ρw1 x366 xi xx ((oρ x hx.1).trans hρ)⟩
      obtain ⟨t1, t2, t3, -⟩ := tk z hz
      exact nρ z t1 t2 t3
    · obtain ⟨D, hD⟩ := get_ex z
      have DA : cA S' D 0 := gb.2.2.2.2.2.1 D (List.mem_of_getElem? hD)
      have htk : bs.take (k + 1) = bs.take k ++ [D] := by rw [List.take_succ, hD]; rfl
      have hlk : (bs.take k).length = k := by rw [List.length_take]; omega
      obtain ⟨y1, y2, y3⟩ := gwL_le (m := md) (n := (bs.take k).length) (W := k) lk.2.2.1 hmd (by omega)
      have y3 := y3 m10
      refine ⟨A', dl, (rA _).trans r1, gb.1, B, q_lget gb hD ⟨DA, lk.1, (if (bs.take k).length = md then 1 else 0), (if (bs.take k).length = md then gwL md md else 0), by omega, by omega, q_ladd dp_O lk (by omega) DA (Nat.le_refl _) (Nat.le_refl _) (fun T v t => ?_)⟩⟩
      rintro _ rfl
      rw [nI_add]
      refine ih _ (by omega) ⟨T, _, _, _, sub_tr s' v.1 (fun a _ z => tk a z), by rw [htk]; exact t, fun z hz => ?_, ?_, by omega, by omega, by omega, rfl⟩
      · rcases v.2 z hz with w | w
        · exact tk z w
        · have wS : z ∉ cL S := fun y => w (sS' z y).1.1
          exact ⟨wS, fun e => w (e ▸ (s' w0 w0A.1).1.1), fun e => w (e ▸ (s' w1 l3'.1.1).1.1), fun e => w (e ▸ A'.1)⟩
      · unfold gwL
        split
        · split <;> omega
        · exact m10
  · rw [ls0_F l1' hz]
    exact ⟨out n1, d1, d2, cA_ne l1'.1 A6 (by decide)⟩
end MS
