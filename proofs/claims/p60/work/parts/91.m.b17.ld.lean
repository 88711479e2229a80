theorem dL_isCommitted_449 : decode cL_isCommitted 449 = .ok (.iconst 0, 1) := by decide +kernel
theorem dL_isCommitted_450 : decode cL_isCommitted 450 = .ok (.ireturn, 1) := by decide +kernel
