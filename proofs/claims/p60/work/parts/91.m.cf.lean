/-! the law's methods as predicates, and their contracts -/

