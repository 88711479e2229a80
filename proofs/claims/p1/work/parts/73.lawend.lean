/-! the law: the end of its loop -/
section LZ
variable {p : Program} {l : Launch} {e : Env} {s : State} {m : MethodId} {below : List Frame} {meth : Method} {c : Code} {b L : Nat} {xs : Nat → Int32} {D : va_G} {Y : cY} {tp dp : Nat}
theorem law_tail (C : lC p l s m meth c b 6 xs D Y tp dp) {cells slots : Nat} {S : cS} {a : Nat → Nat} {v : Nat → Int32} {f : Nat → Nat → Int32} {g : Nat → Nat → Int64} (hc : cells ≤ 600002) (hs : slots ≤ 7302232) : lG p l e s m below meth c b D Y cells slots 3491 [(4, .int (nI 0)), (0, .ref b)] [] S a v f g := by
  refine lq_iinc C (y := nI 6) (lv' := [(4, .int (nI 6)), (0, .ref b)]) 0 rfl (by decide) (by decide) rfl dL_law_3491 ?_
  refine lq_goto C 23 (by decide) dL_law_3494 ?_
  refine lq_iload C 0 rfl dL_law_23 ?_
  refine lq_aload_n C (i := 0) rfl 1 rfl dL_law_25 ?_
  refine lq_slen C dL_law_26 ?_
  refine lq_bipush C (x := nI 6) rfl dL_law_27 ?_
  refine lq_isub C dL_law_29 ?_
  refine lq_icmp_gt C 3497 (by decide) dL_law_30 (fun _ => ?_) (fun c_ => absurd (by decide) c_)
  refine lq_iconst C (x := nI 1) rfl dL_law_3497 ?_
  exact lq_end C hc hs dL_law_3498
end LZ
