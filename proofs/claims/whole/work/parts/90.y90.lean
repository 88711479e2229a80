/-! the reference: which segments are named -/
section NM
variable {v v' : Nat → Int32} {f f' : Nat → Nat → Int32} {g g' : Nat → Nat → Int64} {made : Nat} {sg : Nat → List Dc} {ids : List Nat} {lv : Nat → Nat → Bool} {o : Option Vw}
theorem tk_mem {l : List Nat} {k m n : Nat} (h : l[k]? = some m) : decide (n ∈ l.take (k + 1)) = (decide (n ∈ l.take k) || decide (m = n)) := by
  rw [List.take_add_one, h, Bool.eq_iff_iff, Bool.or_eq_true, decide_eq_true_iff, decide_eq_true_iff, decide_eq_true_iff, List.mem_append]
  refine or_congr Iff.rfl ?_
  show n ∈ [m] ↔ m = n
  rw [List.mem_singleton]
  exact ⟨fun e => e.symm, fun e => e.symm⟩
/-- the segments of a view that may be missing -/
def ovL (o : Option Vw) : List Nat := match o with
  | some s => s.1
  | none => []
theorem p_isInIndex {Q : QI} {n : Nat} (hn : n < 2 ^ 31) (hm : made < 1000) (hi : rIx v f made sg ids lv) (h : Q (bI (decide (n ∈ ids))) v f g) : r_isInIndex Q (nI n) v f g := by
  have hlen := hi.2.1
  have hget : ∀ k m, ids[k]? = some m → f 24 k = nI m ∧ m < 2 ^ 31 := fun k m h => ⟨(hi.2.2.1 k m h).1, by have := (hi.2.2.1 k m h).2; omega⟩
  unfold r_isInIndex r_isInIndex_4L
  refine lfp_cnt ids.length (fun k y => y = (nI n, bI (decide (n ∈ ids.take k)), nI k, v, f, g)) ?_ rfl
  rintro P k _ hk rfl ih
  show r_isInIndex_4 Q _ (nI n) (bI (decide (n ∈ ids.take k))) (nI k) v f g
  have go : ∀ t : Bool, k < ids.length → t = decide (n ∈ ids.take (k + 1)) → r_isInIndex_31 Q (fun b0 b1 b2 v f g => P (b0, b1, b2, v, f, g)) (nI n) (nI k) (bI t) v f g := by
    intro t hk2 ht
    unfold r_isInIndex_31
    rintro _ rfl
    rw [nI_add, ht]
    exact ih _ hk2 rfl
  unfold r_isInIndex_4
  rw [hi.1]
  refine pk_le ids.length k (fun z => ⟨⟨_, rfl⟩, ?_⟩) (fun z => ?_)
  · have ek : ids.take k = ids := List.take_of_length_le (by omega)
    rw [ek]; exact h
  obtain ⟨m, hm⟩ := get_ex z
  obtain ⟨t1, t2⟩ := hget k m hm
  have tm := tk_mem (n := n) hm
  rw [nI_clamp (show k < 2 ^ 31 by omega), t1]
  refine w_bn (decide (n ∈ ids.take k)) (fun e => go true z (by rw [tm, e]; rfl)) (fun e => ⟨pk_in k 202 (by omega), w_ne m n (fun c => go false z (by rw [tm, e, decide_eq_false c]; rfl)) (fun c => go true z (by rw [tm, e, decide_eq_true c]; rfl))⟩)
theorem p_isInCommit {Q : QI} {n : Nat} (hn : n < 2 ^ 31) (hm : made < 1000) (ho : rOv v f 35 37 25 26 made sg o) (h : Q (bI (decide (n ∈ (ovL o)))) v f g) : r_isInCommit Q (nI n) v f g := by
  have hlen : (ovL o).length ≤ 200 := by
    cases o with
    | none => exact Nat.zero_le _
    | some s => exact (ho.2 s rfl).2.1
  have hget : ∀ k m, (ovL o)[k]? = some m → f 25 k = nI m ∧ m < 2 ^ 31 := fun k m h => by
    cases o with
    | none => exact absurd (get_lt h) (Nat.not_lt_zero k)
    | some s =>
      have := (ho.2 s rfl).2.2.1 k m h
      exact ⟨this.1, by have := this.2; omega⟩
  unfold r_isInCommit r_isInCommit_4L
  refine lfp_cnt (ovL o).length (fun k y => y = (nI n, bI (decide (n ∈ (ovL o).take k)), nI k, v, f, g)) ?_ rfl
  rintro P k _ hk rfl ih
  show r_isInCommit_4 Q _ (nI n) (bI (decide (n ∈ (ovL o).take k))) (nI k) v f g
  have go : ∀ t : Bool, k < (ovL o).length → t = decide (n ∈ (ovL o).take (k + 1)) → r_isInCommit_38 Q (fun b0 b1 b2 v f g => P (b0, b1, b2, v, f, g)) (nI n) (nI k) (bI t) v f g := by
    intro t hk2 ht
    unfold r_isInCommit_38
    rintro _ rfl
    rw [nI_add, ht]
    exact ih _ hk2 rfl
  unfold r_isInCommit_4
  rw [ho.1]
  refine w_b0 o.isSome (fun e => ⟨⟨_, rfl⟩, ?_⟩) (fun e => ?_)
  · have oN : o = none := by
      cases o with
      | none => rfl
      | some m => exact absurd e (by simp)
    subst oN
    have ek : (ovL none).take k = ovL none := by
      show ([] : List Nat).take k = []
      exact List.take_nil
    rw [ek]; exact h
  have hc : v 37 = nI (ovL o).length := by
    cases o with
    | none => exact absurd e (by simp)
    | some s => exact (ho.2 s rfl).1
  rw [hc]
  refine pk_le (ovL o).length k (fun z => ⟨⟨_, rfl⟩, ?_⟩) (fun z => ?_)
  · have ek : (ovL o).take k = (ovL o) := List.take_of_length_le (by omega)
    rw [ek]; exact h
  obtain ⟨m, hm⟩ := get_ex z
  obtain ⟨t1, t2⟩ := hget k m hm
  have tm := tk_mem (n := n) hm
  rw [nI_clamp (show k < 2 ^ 31 by omega), t1]
  refine w_bn (decide (n ∈ (ovL o).take k)) (fun e => go true z (by rw [tm, e]; rfl)) (fun e => ⟨pk_in k 202 (by omega), w_ne m n (fun c => go false z (by rw [tm, e, decide_eq_false c]; rfl)) (fun c => go true z (by rw [tm, e, decide_eq_true c]; rfl))⟩)
theorem p_isInPrepared {Q : QI} {n : Nat} (hn : n < 2 ^ 31) (hm : made < 1000) (ho : rOv v f 40 42 27 28 made sg o) (h : Q (bI (decide (n ∈ (ovL o)))) v f g) : r_isInPrepared Q (nI n) v f g := by
  have hlen : (ovL o).length ≤ 200 := by
    cases o with
    | none => exact Nat.zero_le _
    | some s => exact (ho.2 s rfl).2.1
  have hget : ∀ k m, (ovL o)[k]? = some m → f 27 k = nI m ∧ m < 2 ^ 31 := fun k m h => by
    cases o with
    | none => exact absurd (get_lt h) (Nat.not_lt_zero k)
    | some s =>
      have := (ho.2 s rfl).2.2.1 k m h
      exact ⟨this.1, by have := this.2; omega⟩
  unfold r_isInPrepared r_isInPrepared_4L
  refine lfp_cnt (ovL o).length (fun k y => y = (nI n, bI (decide (n ∈ (ovL o).take k)), nI k, v, f, g)) ?_ rfl
  rintro P k _ hk rfl ih
  show r_isInPrepared_4 Q _ (nI n) (bI (decide (n ∈ (ovL o).take k))) (nI k) v f g
  have go : ∀ t : Bool, k < (ovL o).length → t = decide (n ∈ (ovL o).take (k + 1)) → r_isInPrepared_38 Q (fun b0 b1 b2 v f g => P (b0, b1, b2, v, f, g)) (nI n) (nI k) (bI t) v f g := by
    intro t hk2 ht
    unfold r_isInPrepared_38
    rintro _ rfl
    rw [nI_add, ht]
    exact ih _ hk2 rfl
  unfold r_isInPrepared_4
  rw [ho.1]
  refine w_b0 o.isSome (fun e => ⟨⟨_, rfl⟩, ?_⟩) (fun e => ?_)
  · have oN : o = none := by
      cases o with
      | none => rfl
      | some m => exact absurd e (by simp)
    subst oN
    have ek : (ovL none).take k = ovL none := by
      show ([] : List Nat).take k = []
      exact List.take_nil
    rw [ek]; exact h
  have hc : v 42 = nI (ovL o).length := by
    cases o with
    | none => exact absurd e (by simp)
    | some s => exact (ho.2 s rfl).1
  rw [hc]
  refine pk_le (ovL o).length k (fun z => ⟨⟨_, rfl⟩, ?_⟩) (fun z => ?_)
  · have ek : (ovL o).take k = (ovL o) := List.take_of_length_le (by omega)
    rw [ek]; exact h
  obtain ⟨m, hm⟩ := get_ex z
  obtain ⟨t1, t2⟩ := hget k m hm
  have tm := tk_mem (n := n) hm
  rw [nI_clamp (show k < 2 ^ 31 by omega), t1]
  refine w_bn (decide (n ∈ (ovL o).take k)) (fun e => go true z (by rw [tm, e]; rfl)) (fun e => ⟨pk_in k 202 (by omega), w_ne m n (fun c => go false z (by rw [tm, e, decide_eq_false c]; rfl)) (fun c => go true z (by rw [tm, e, decide_eq_true c]; rfl))⟩)
end NM
