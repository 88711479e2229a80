/-! the law: its switch, from the head of its loop -/
section LZ
variable {p : Program} {l : Launch} {e : Env} {s : State} {m : MethodId} {below : List Frame} {meth : Method} {c : Code} {b L : Nat} {xs : Nat → Int32} {D : va_G} {Y : cY} {tp dp : Nat}
set_option maxHeartbeats 4000000 in
theorem law_head (hL : L ≤ 6) (C : lC p l s m meth c b L xs D Y tp dp) {S : cS} {a : Nat → Nat} {v : Nat → Int32} {f : Nat → Nat → Int32} {g : Nat → Nat → Int64} {x out q1 q2 q3 q10 q11 q15 q19 q20 q21 q22 q23 q29 q30 q37 : Nat} (F : cFr S dp x out q1 q2 q3 q10 q11 q15 q19 q20 q21 q22 q23 q29 q30 q37) (M : mFr v f g) : lG p l e s m below meth c b D Y 174 409927 23 [(4, .int (nI 0)), (3, .ref out), (2, .ref (a 0)), (1, .ref x), (0, .ref b)] [] S a v f g := by
  refine lq_iload C 0 rfl dL_law_23 ?_
  refine lq_aload_n C (i := 0) rfl 4 rfl dL_law_25 ?_
  refine lq_slen C dL_law_26 ?_
  refine lq_bipush C (x := nI 6) rfl dL_law_27 ?_
  refine lq_isub C dL_law_29 ?_
  rcases Nat.lt_or_ge L 6 with h6 | h6
  · refine lq_icmp_gt C 3497 (by decide) dL_law_30 (fun _ => ?_) (fun c_ => absurd (show nI L - nI 6 < nI 0 by rw [nI_0]; exact pk_sneg (by decide) h6) c_)
    refine lq_iconst C (x := nI 1) rfl dL_law_3497 ?_
    exact lq_end C (Nat.le_of_ble_eq_true rfl) (Nat.le_of_ble_eq_true rfl) dL_law_3498
  · obtain rfl : L = 6 := by omega
    refine lq_icmp_gt C 3497 (by decide) dL_law_30 (fun c_ => absurd c_ (by decide)) (fun _ => ?_)
    refine lq_aload_n C (i := 0) rfl 4 rfl dL_law_33 ?_
    refine lq_iload C 0 rfl dL_law_34 ?_
    refine lq_sld C 0 (by decide) (by decide) dL_law_36 ?_
    refine lq_bipush C (x := nI 63) rfl dL_law_37 ?_
    refine lq_iand C dL_law_39 ?_
    obtain ⟨j, hj, ej⟩ := pk_andE (xs 0) (m := nI 63) 6 (by decide)
    refine lq_cast (.int (nI j)) (congrArg Value.int ej) ?_
    rcases (show j = 0 ∨ j = 1 ∨ j = 2 ∨ j = 3 ∨ j = 4 ∨ j = 5 ∨ j = 6 ∨ j = 7 ∨ j = 8 ∨ j = 9 ∨ j = 10 ∨ j = 11 ∨ j = 12 ∨ j = 13 ∨ j = 14 ∨ j = 15 ∨ j = 16 ∨ j = 17 ∨ j = 18 ∨ j = 19 ∨ j = 20 ∨ j = 21 ∨ j = 22 ∨ j = 23 ∨ j = 24 ∨ j = 25 ∨ j = 26 ∨ j = 27 ∨ j = 28 ∨ j = 29 ∨ j = 30 ∨ j = 31 ∨ j = 32 ∨ j = 33 ∨ j = 34 ∨ j = 35 ∨ j = 36 ∨ j = 37 ∨ j = 38 ∨ j = 39 ∨ j = 40 ∨ j = 41 ∨ j = 42 ∨ j = 43 ∨ j = 44 ∨ j = 45 ∨ j = 46 ∨ j = 47 ∨ j = 48 ∨ j = 49 ∨ j = 50 ∨ j = 51 ∨ j = 52 ∨ j = 53 ∨ j = 54 ∨ j = 55 ∨ j = 56 ∨ 57 ≤ j by omega) with rfl | rfl | rfl | rfl | rfl | rfl | rfl | rfl | rfl | rfl | rfl | rfl | rfl | rfl | rfl | rfl | rfl | rfl | rfl | rfl | rfl | rfl | rfl | rfl | rfl | rfl | rfl | rfl | rfl | rfl | rfl | rfl | rfl | rfl | rfl | rfl | rfl | rfl | rfl | rfl | rfl | rfl | rfl | rfl | rfl | rfl | rfl | rfl | rfl | rfl | rfl | rfl | rfl | rfl | rfl | rfl | rfl | h57
    · exact lq_tabIn C 284 dL_law_40 (by decide) (by decide) rfl (by decide) (law_case0 C F M)
    · exact lq_tabIn C 342 dL_law_40 (by decide) (by decide) rfl (by decide) (law_case1 C F M)
    · exact lq_tabIn C 355 dL_law_40 (by decide) (by decide) rfl (by decide) (law_case2 C F M)
    · exact lq_tabIn C 399 dL_law_40 (by decide) (by decide) rfl (by decide) (law_case3 C F M)
    · exact lq_tabIn C 443 dL_law_40 (by decide) (by decide) rfl (by decide) (law_case4 C F M)
    · exact lq_tabIn C 499 dL_law_40 (by decide) (by decide) rfl (by decide) (law_case5 C F M)
    · exact lq_tabIn C 547 dL_law_40 (by decide) (by decide) rfl (by decide) (law_case6 C F M)
    · exact lq_tabIn C 603 dL_law_40 (by decide) (by decide) rfl (by decide) (law_case7 C F M)
    · exact lq_tabIn C 666 dL_law_40 (by decide) (by decide) rfl (by decide) (law_case8 C F M)
    · exact lq_tabIn C 710 dL_law_40 (by decide) (by decide) rfl (by decide) (law_case9 C F M)
    · exact lq_tabIn C 754 dL_law_40 (by decide) (by decide) rfl (by decide) (law_case10 C F M)
    · exact lq_tabIn C 798 dL_law_40 (by decide) (by decide) rfl (by decide) (law_case11 C F M)
    · exact lq_tabIn C 842 dL_law_40 (by decide) (by decide) rfl (by decide) (law_case12 C F M)
    · exact lq_tabIn C 886 dL_law_40 (by decide) (by decide) rfl (by decide) (law_case13 C F M)
    · exact lq_tabIn C 930 dL_law_40 (by decide) (by decide) rfl (by decide) (law_case14 C F M)
    · exact lq_tabIn C 974 dL_law_40 (by decide) (by decide) rfl (by decide) (law_case15 C F M)
    · exact lq_tabIn C 998 dL_law_40 (by decide) (by decide) rfl (by decide) (law_case16 C F M)
    · exact lq_tabIn C 1034 dL_law_40 (by decide) (by decide) rfl (by decide) (law_case17 C F M)
    · exact lq_tabIn C 1078 dL_law_40 (by decide) (by decide) rfl (by decide) (law_case18 C F M)
    · exact lq_tabIn C 1091 dL_law_40 (by decide) (by decide) rfl (by decide) (law_case19 C F M)
    · exact lq_tabIn C 1135 dL_law_40 (by decide) (by decide) rfl (by decide) (law_case20 C F M)
    · exact lq_tabIn C 1148 dL_law_40 (by decide) (by decide) rfl (by decide) (law_case21 C F M)
    · exact lq_tabIn C 1192 dL_law_40 (by decide) (by decide) rfl (by decide) (law_case22 C F M)
    · exact lq_tabIn C 1248 dL_law_40 (by decide) (by decide) rfl (by decide) (law_case23 C F M)
    · exact lq_tabIn C 1304 dL_law_40 (by decide) (by decide) rfl (by decide) (law_case24 C F M)
    · exact lq_tabIn C 1372 dL_law_40 (by decide) (by decide) rfl (by decide) (law_case25 C F M)
    · exact lq_tabIn C 1440 dL_law_40 (by decide) (by decide) rfl (by decide) (law_case26 C F M)
    · exact lq_tabIn C 1520 dL_law_40 (by decide) (by decide) rfl (by decide) (law_case27 C F M)
    · exact lq_tabIn C 1588 dL_law_40 (by decide) (by decide) rfl (by decide) (law_case28 C F M)
    · exact lq_tabIn C 1680 dL_law_40 (by decide) (by decide) rfl (by decide) (law_case29 C F M)
    · exact lq_tabIn C 1760 dL_law_40 (by decide) (by decide) rfl (by decide) (law_case30 C F M)
    · exact lq_tabIn C 1852 dL_law_40 (by decide) (by decide) rfl (by decide) (law_case31 C F M)
    · exact lq_tabIn C 1924 dL_law_40 (by decide) (by decide) rfl (by decide) (law_case32 C F M)
    · exact lq_tabIn C 1980 dL_law_40 (by decide) (by decide) rfl (by decide) (law_case33 C F M)
    · exact lq_tabIn C 2036 dL_law_40 (by decide) (by decide) rfl (by decide) (law_case34 C F M)
    · exact lq_tabIn C 2092 dL_law_40 (by decide) (by decide) rfl (by decide) (law_case35 C F M)
    · exact lq_tabIn C 2160 dL_law_40 (by decide) (by decide) rfl (by decide) (law_case36 C F M)
    · exact lq_tabIn C 2256 dL_law_40 (by decide) (by decide) rfl (by decide) (law_case37 C F M)
    · exact lq_tabIn C 2312 dL_law_40 (by decide) (by decide) rfl (by decide) (law_case38 C F M)
    · exact lq_tabIn C 2368 dL_law_40 (by decide) (by decide) rfl (by decide) (law_case39 C F M)
    · exact lq_tabIn C 2436 dL_law_40 (by decide) (by decide) rfl (by decide) (law_case40 C F M)
    · exact lq_tabIn C 2504 dL_law_40 (by decide) (by decide) rfl (by decide) (law_case41 C F M)
    · exact lq_tabIn C 2548 dL_law_40 (by decide) (by decide) rfl (by decide) (law_case42 C F M)
    · exact lq_tabIn C 2592 dL_law_40 (by decide) (by decide) rfl (by decide) (law_case43 C F M)
    · exact lq_tabIn C 2605 dL_law_40 (by decide) (by decide) rfl (by decide) (law_case44 C F M)
    · exact lq_tabIn C 2673 dL_law_40 (by decide) (by decide) rfl (by decide) (law_case45 C F M)
    · exact lq_tabIn C 2753 dL_law_40 (by decide) (by decide) rfl (by decide) (law_case46 C F M)
    · exact lq_tabIn C 2809 dL_law_40 (by decide) (by decide) rfl (by decide) (law_case47 C F M)
    · exact lq_tabIn C 2865 dL_law_40 (by decide) (by decide) rfl (by decide) (law_case48 C F M)
    · exact lq_tabIn C 2878 dL_law_40 (by decide) (by decide) rfl (by decide) (law_case49 C F M)
    · exact lq_tabIn C 2891 dL_law_40 (by decide) (by decide) rfl (by decide) (law_case50 C F M)
    · exact lq_tabIn C 2971 dL_law_40 (by decide) (by decide) rfl (by decide) (law_case51 C F M)
    · exact lq_tabIn C 3039 dL_law_40 (by decide) (by decide) rfl (by decide) (law_case52 C F M)
    · exact lq_tabIn C 3107 dL_law_40 (by decide) (by decide) rfl (by decide) (law_case53 C F M)
    · exact lq_tabIn C 3187 dL_law_40 (by decide) (by decide) rfl (by decide) (law_case54 C F M)
    · exact lq_tabIn C 3295 dL_law_40 (by decide) (by decide) rfl (by decide) (law_case55 C F M)
    · exact lq_tabIn C 3387 dL_law_40 (by decide) (by decide) rfl (by decide) (law_case56 C F M)
    · refine lq_tabOut C 3491 dL_law_40 (Or.inr ?_) (by decide) ?_
      · rw [nI_toInt (by omega)]
        omega
      · exact lq_sub [0, 4] rfl (law_tail C (Nat.le_of_ble_eq_true rfl) (Nat.le_of_ble_eq_true rfl))
end LZ
