/-! both worlds together: shut -/
theorem fm_dn {α : Type} {sl : Nat → Option α} {a : Nat} {z : α} (hs : sl a = some z) {l : List Nat} (hd : l.Nodup) (h : a ∈ l) : (l.filterMap sl).Perm (z :: l.filterMap (upR sl a none)) := by
  have e : upR (upR sl a none) a (some z) = sl := by
    funext q
    by_cases c : q = a
    · rw [c, upR_s, hs]
    · rw [upR_n c, upR_n c]
  have := fm_up (sl := upR sl a none) (z := z) upR_s hd h
  rwa [e] at this
theorem fm_er {α : Type} {sn : List α} {sl : Nat → Option α} {a i : Nat} {z : α} (hp : sn.Perm ((List.range 5).filterMap sl)) (hs : sl a = some z) (ha : a < 5) (hi : sn[i]? = some z) : (sn.eraseIdx i).Perm ((List.range 5).filterMap (upR sl a none)) :=
  List.Perm.cons_inv (((perm_er hi).trans hp).trans (fm_dn hs List.nodup_range (List.mem_range.mpr ha)))
