/-! stop words, the pad taken, signs typed -/
theorem anyB_of {q : Nat → Bool} {j : Nat} (hq : q j = true) : ∀ {k : Nat}, j < k → anyB q k = true
  | 0, h => absurd h (Nat.not_lt_zero _)
  | k + 1, h => by
    rcases Nat.lt_or_ge j k with z | z
    · exact anyB_s1 (anyB_of hq z)
    · obtain rfl : j = k := by omega
      exact anyB_s2 hq
/-- the language's stop words: k of them, the row A -/
def lSt (S : cS) (L k : Nat) (A : Nat → Int64) : Prop := cA S L 3 ∧ ci S 100 L = nI k ∧ k ≤ 10 ∧ ∃ b, cr S 99 L = some b ∧ cA S b 15 ∧ cn S b = 10 ∧ cJ S b = A
section LA
variable {S : cS} {dp : Nat}
theorem q_isStop {Q : Int32 → cS → Prop} {L k : Nat} {A : Nat → Int64} {t : Int64} (hl : lSt S L k A) (h : Q (bI (anyB (fun j => A j == t) k)) S) : k_X3_isStop Q dp L t S := by
  obtain ⟨l1, l2, l3, b, l4, l5, l6, l7⟩ := hl
  unfold k_X3_isStop k_X3_isStop_2L
  refine lfp_ind (I := fun y => ∃ j, j ≤ k ∧ anyB (fun j => A j == t) j = false ∧ y = (L, t, nI j, S)) (μ := fun y => k - y.2.2.1.toNatClampNeg) ?_ ⟨0, by omega, rfl, rfl⟩
  rintro P _ ⟨j, hj, ha, rfl⟩ ih
  show k_X3_isStop_2 Q dp _ L t (nI j) S
  unfold k_X3_isStop_2
  rw [l2]
  refine ⟨l1, fun c => ?_, fun c => ?_⟩
  · have c := (nI_leI (by omega) (by omega)).mp c
    obtain rfl : j = k := by omega
    rw [ha] at h; exact h
  · have c : j < k := by have := mt (nI_leI (by omega) (by omega)).mpr c; omega
    refine ⟨l1, b, l4, l5, fun d => ?_, fun _ => ⟨l1, b, l4, cX_mk (n := j) l5 l6 (by decide) (by omega) rfl, ?_⟩⟩
    · rw [l6] at d
      exact absurd ((nI_leI (by decide) (by omega)).mp d) (by omega)
    · rw [nI_clamp (by omega), l7]
      refine ⟨fun d => ?_, fun d => ?_⟩
      · rintro _ rfl
        rw [nI_add]
        refine ih _ ⟨j + 1, by omega, anyB_s0 ha (beq_eq_false_iff_ne.mpr d), rfl⟩ ?_
        show k - (nI (j + 1)).toNatClampNeg < k - (nI j).toNatClampNeg
        rw [nI_clamp (by omega), nI_clamp (by omega)]
        omega
      · rw [anyB_of (q := fun j => A j == t) (beq_iff_eq.mpr d) c] at h; exact h
theorem q_takePad {Q : Nat → cS → Prop} {L p mc ms : Nat} (hL : cA S L 3) (hp : cr S 96 L = some p) (hm : 4 ≤ mc) (hs : 45 ≤ ms) (h : ∀ T q, q ∉ cL S → cSub S T (fun a => a = L) → cr T 96 L = some q → (∀ p', p' ≠ 96 → cr T p' L = cr S p' L) → (∀ p', ci T p' L = ci S p' L) → tNew S T q → Q p T) : k_X3_takePad Q dp mc ms L S := by
  unfold k_X3_takePad
  refine ⟨hL, p, hp, ⟨by omega, by omega⟩, ?_⟩
  intro q hq S3 e3
  have s3 : cSub S S3 (fun _ => False) := e3 ▸ sub_N hq
  have hq3 : cA S3 q 9 := ⟨hm_No e3, hk_No e3⟩
  have hLq : L ≠ q := cm_nq hq hL.1
  refine ⟨3, 40, by omega, by omega, q_textInit hq3 (by omega) (by omega) ?_⟩
  intro S6 s6 hn
  have hL3 := sub_A1 s3 hL
  refine ⟨sub_A1 s6 hL3, ?_⟩
  intro S7 e7
  have s37 : cSub S S6 (fun a => a = L) := sub_tr (sub_wk s3 (fun _ _ z => z.elim)) s6 (fun a ha z => absurd z (cm_nq hq ha))
  have s7 : cSub S S7 (fun a => a = L) := sub_tr s37 (e7 ▸ sub_Sr rfl) (fun _ _ z => z)
  refine ⟨⟨by omega, by omega⟩, h S7 q hq s7 (hr_Sr_s e7) ?_ ?_ ?_⟩
  · intro p' hp'
    have e1 : cr S7 p' L = cr S6 p' L := by rw [e7]; exact mU_nq hp'
    rw [e1, sub_cr s6 hL3 hLq, sub_cr s3 hL (fun z => z)]
  · intro p'
    have e1 : ci S7 p' L = ci S6 p' L := by rw [e7]; rfl
    rw [e1, sub_ci s6 hL3 hLq, sub_ci s3 hL (fun z => z)]
  · obtain ⟨n1, n2, n3, a, b, c, ⟨x1, x2, x3⟩, ⟨y1, y2, y3⟩, ⟨z1, z2, z3⟩, ⟨w1, w2, w3⟩, hac⟩ := hn
    have t : ∀ {x k : Nat}, cA S6 x k → cA S7 x k := fun h => ⟨hm_Sr e7 h.1, hk_Sr e7 h.2⟩
    refine ⟨t n1, hi_Sr e7 n2, hi_Sr e7 n3, a, b, c, ⟨fun z => x1 (s3 a z).1.1, fun z => x2 (s3 b z).1.1, fun z => x3 (s3 c z).1.1⟩, ⟨hr_Sr_q e7 (by decide) y1, t y2, hn_Sr e7 y3⟩, ⟨hr_Sr_q e7 (by decide) z1, t z2, hn_Sr e7 z3⟩, ⟨hr_Sr_q e7 (by decide) w1, t w2, hn_Sr e7 w3⟩, hac⟩
end LA
