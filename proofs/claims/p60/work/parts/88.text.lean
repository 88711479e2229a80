/-! texts are made, the pad is taken -/
section TX
variable {S : cS} {dp : Nat}
theorem q_textInit {Q : cS → Prop} {mc ms t : Nat} (ht : cA S t 9) (hm : 3 ≤ mc) (hs : 40 ≤ ms) (h : ∀ T, cSub S T (fun a => a = t) → tNew S T t → Q T) : k_X9_init Q dp mc ms t S := by
  unfold k_X9_init
  refine ⟨40, rfl, by decide, by omega, by omega, ?_⟩
  intro a ha S1 e1
  have s1 : cSub S S1 (fun a => a = t) := e1 ▸ sub_A ha
  refine ⟨sub_A1 s1 ht, ?_⟩
  intro S2 e2
  have s2 : cSub S S2 (fun a => a = t) := sub_tr s1 (e2 ▸ sub_Sr rfl) (fun _ _ q => q)
  refine ⟨sub_A1 s2 ht, ?_⟩
  intro S3 e3
  have s3 : cSub S S3 (fun a => a = t) := sub_tr s2 (e3 ▸ sub_Si rfl) (fun _ _ q => q)
  refine ⟨0, rfl, by decide, by omega, by omega, ?_⟩
  intro b hb S4 e4
  have s4 : cSub S S4 (fun a => a = t) := sub_tr s3 (e4 ▸ sub_A hb) (fun _ _ q => q)
  refine ⟨sub_A1 s4 ht, ?_⟩
  intro S5 e5
  have s5 : cSub S S5 (fun a => a = t) := sub_tr s4 (e5 ▸ sub_Sr rfl) (fun _ _ q => q)
  refine ⟨0, rfl, by decide, by omega, by omega, ?_⟩
  intro c hc S6 e6
  have s6 : cSub S S6 (fun a => a = t) := sub_tr s5 (e6 ▸ sub_A hc) (fun _ _ q => q)
  refine ⟨sub_A1 s6 ht, ?_⟩
  intro S7 e7
  have s7 : cSub S S7 (fun a => a = t) := sub_tr s6 (e7 ▸ sub_Sr rfl) (fun _ _ q => q)
  refine ⟨sub_A1 s7 ht, ?_⟩
  intro S8 e8
  have s8 : cSub S S8 (fun a => a = t) := sub_tr s7 (e8 ▸ sub_Si rfl) (fun _ _ q => q)
  refine ⟨⟨by omega, by omega⟩, h S8 s8 ?_⟩
  have ab : a ≠ b := cm_nq hb (hm_Si e3 (hm_Sr e2 (hm_Ao e1)))
  have bc : b ≠ c := cm_nq hc (hm_Sr e5 (hm_Ao e4))
  have ac : a ≠ c := cm_nq hc (hm_Sr e5 (hm_A e4 (hm_Si e3 (hm_Sr e2 (hm_Ao e1)))))
  refine ⟨sub_A1 s8 ht, hi_Si_q e8 (by decide) (hi_Sr e7 (hi_A e6 (hi_Sr e5 (hi_A e4 (hi_Si_s e3))))), hi_Si_s e8, a, b, c, ⟨ha, fun q => hb (s3 b q).1.1, fun q => hc (s5 c q).1.1⟩, ⟨?_, ⟨?_, ?_⟩, ?_⟩, ⟨?_, ⟨?_, ?_⟩, ?_⟩, ⟨?_, ⟨?_, ?_⟩, ?_⟩, ac⟩
  · exact hr_Si e8 (hr_Sr_q e7 (by decide) (hr_A e6 (hr_Sr_q e5 (by decide) (hr_A e4 (hr_Si e3 (hr_Sr_s e2))))))
  · exact hm_Si e8 (hm_Sr e7 (hm_A e6 (hm_Sr e5 (hm_A e4 (hm_Si e3 (hm_Sr e2 (hm_Ao e1)))))))
  · exact hk_Si e8 (hk_Sr e7 (hk_A e6 ac (hk_Sr e5 (hk_A e4 ab (hk_Si e3 (hk_Sr e2 (hk_Ao e1)))))))
  · exact hn_Si e8 (hn_Sr e7 (hn_A e6 ac (hn_Sr e5 (hn_A e4 ab (hn_Si e3 (hn_Sr e2 (hn_Ao e1)))))))
  · exact hr_Si e8 (hr_Sr_q e7 (by decide) (hr_A e6 (hr_Sr_s e5)))
  · exact hm_Si e8 (hm_Sr e7 (hm_A e6 (hm_Sr e5 (hm_Ao e4))))
  · exact hk_Si e8 (hk_Sr e7 (hk_A e6 bc (hk_Sr e5 (hk_Ao e4))))
  · exact hn_Si e8 (hn_Sr e7 (hn_A e6 bc (hn_Sr e5 (hn_Ao e4))))
  · exact hr_Si e8 (hr_Sr_s e7)
  · exact hm_Si e8 (hm_Sr e7 (hm_Ao e6))
  · exact hk_Si e8 (hk_Sr e7 (hk_Ao e6))
  · exact hn_Si e8 (hn_Sr e7 (hn_Ao e6))
/-- a new text has no signs -/
theorem tNew_sg {T : cS} {t : Nat} {P : Nat → Nat} (h : tNew S T t) : tSg T t 0 P := by
  obtain ⟨h1, h2, -, a, b, c, -, ⟨h4, h5, h6⟩, -⟩ := h
  exact ⟨h1, by omega, h2, a, h4, h5, h6, fun k hk => absurd hk (Nat.not_lt_zero k)⟩
/-- a sign is put behind the others -/
theorem q_putSign {Q : Int32 → cS → Prop} {t n x : Nat} {P : Nat → Nat} (ht : tSg S t n P) (hn : n < 40) (hx : x < 65536) (h : ∀ T, (∃ a, cr S 288 t = some a ∧ cSub S T (fun z => z = t ∨ z = a)) → tSg T t (n + 1) (upR P n x) → (∀ q, q ≠ 289 → ci T q t = ci S q t) → (∀ q, cr T q t = cr S q t) → Q (nI (n + 1)) T) : k_X9_putSign Q dp t (nI x) S := by
  obtain ⟨h1, h2, h3, a, h4, h5, h6, h7⟩ := ht
  have hat : a ≠ t := cA_ne h5 h1 (by decide)
  unfold k_X9_putSign
  rw [h3]
  refine ⟨h1, h1, a, h4, h5, fun c => ?_, fun _ => ⟨h1, a, h4, h1, cX_mk (n := n) h5 h6 (by decide) hn rfl, ?_⟩⟩
  · rw [h6] at c
    exact absurd ((nI_leI (by decide) (by omega)).mp c) (by omega)
  intro S1 e1
  rw [nI_clamp (by omega)] at e1
  have s1 : cSub S S1 (fun z => z = t ∨ z = a) := e1 ▸ sub_SI (Or.inr rfl)
  have c1 : ci S1 289 t = nI n := by rw [e1]; exact h3
  refine ⟨sub_A1 s1 h1, sub_A1 s1 h1, ?_⟩
  intro S2 e2
  rw [c1, nI_add] at e2
  have s2 : cSub S S2 (fun z => z = t ∨ z = a) := sub_tr s1 (e2 ▸ sub_Si (Or.inl rfl)) (fun _ _ q => q)
  unfold k_X9_putSign_32
  have c2 : ci S2 289 t = nI (n + 1) := hi_Si_s e2
  rw [c2]
  refine ⟨sub_A1 s2 h1, h S2 ⟨a, h4, s2⟩ ⟨sub_A1 s2 h1, by omega, c2, a, ?_, sub_A1 s2 h5, (sub_cn s2 h5).trans h6, ?_⟩ ?_ ?_⟩
  · rw [e2, e1]; exact h4
  · intro k hk
    have e3 : cI S2 a = fun k => if k = n then nI x else cI S a k := by
      rw [e2, e1]
      show mU (cI S) a n (nI x) a = _
      exact mU_s
    rw [e3]
    by_cases q : k = n
    · subst q
      refine ⟨?_, by rw [upR_e rfl]; exact hx⟩
      show (if k = k then nI x else cI S a k) = nI (upR P k x k)
      rw [if_pos rfl, upR_e rfl]
    · refine ⟨?_, by rw [upR_n q]; exact (h7 k (by omega)).2⟩
      show (if k = n then nI x else cI S a k) = nI (upR P n x k)
      rw [if_neg q, upR_n q]
      exact (h7 k (by omega)).1
  · intro q hq
    rw [e2]; exact (cSi_nq hq).trans (by rw [e1]; rfl)
  · intro q
    rw [e2, e1]; rfl
end TX
