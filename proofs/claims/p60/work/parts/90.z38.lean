/-! both worlds together: merge, documents, open -/
theorem nd_map {α β : Type} {F : α → β} : ∀ {l : List α}, (∀ a, a ∈ l → ∀ b, b ∈ l → F a = F b → a = b) → l.Nodup → (l.map F).Nodup
  | [], _, _ => List.nodup_nil
  | a :: l, hi, h => by
    obtain ⟨h1, h2⟩ := List.nodup_cons.mp h
    rw [List.map_cons]
    refine List.nodup_cons.mpr ⟨fun hm => ?_, nd_map (fun x hx y hy e => hi x (List.mem_cons_of_mem _ hx) y (List.mem_cons_of_mem _ hy) e) h2⟩
    obtain ⟨b, hb, e⟩ := List.mem_map.mp hm
    have := hi b (List.mem_cons_of_mem _ hb) a List.mem_cons_self e
    exact h1 (this ▸ hb)
theorem fndJ_nd {f : Nat → Bool} {n : Nat} : ∀ k : Nat, (fndJ f n k).Nodup
  | 0 => List.nodup_nil
  | k + 1 => by
    rw [fndJ]
    split
    · refine List.nodup_append.mpr ⟨fndJ_nd k, List.nodup_cons.mpr ⟨List.not_mem_nil, List.nodup_nil⟩, fun a ha b hb e => ?_⟩
      have h1 := (fndJ_mem ha).2.1
      rw [e, List.mem_singleton.mp hb] at h1
      exact absurd h1 (Nat.lt_irrefl k)
    · rw [List.append_nil]; exact fndJ_nd k
theorem mtL_nd {sg : Nat → List Dc} {f : Nat → Nat → Bool} : ∀ {ids : List Nat}, ids.Nodup → (mtL sg f ids).Nodup
  | [], _ => List.nodup_nil
  | n :: ids, h => by
    obtain ⟨h1, h2⟩ := List.nodup_cons.mp h
    unfold mtL
    rw [List.flatMap_cons]
    refine List.nodup_append.mpr ⟨fndJ_nd _, mtL_nd h2, fun a ha b hb e => ?_⟩
    have e1 := (fndJ_mem ha).1
    have e2 := (mtL_mem (sg := sg) (f := f) (ids := ids) hb).1
    rw [← e, e1] at e2
    exact h1 e2
theorem smN_up {F : Nat → Nat} {a : Nat} : ∀ {N : Nat}, a < N → smN F N = smN (upR F a 0) N + F a
  | 0, h => absurd h (Nat.not_lt_zero a)
  | N + 1, h => by
    rw [smN, smN]
    by_cases c : a = N
    · subst c
      have : ∀ M, M ≤ a → smN F M = smN (upR F a 0) M := fun M => by
        induction M with
        | zero => intro _; rfl
        | succ M ih => intro hM; rw [smN, smN, ih (by omega), upR_n (by omega)]
      rw [this a (Nat.le_refl _), upR_s, Nat.add_zero]
    · rw [smN_up (F := F) (a := a) (N := N) (by omega), upR_n (show N ≠ a by omega)]; omega
/-- distinct segments' sizes -/
theorem sumL_smN {N : Nat} : ∀ {ids : List Nat} {F : Nat → Nat}, ids.Nodup → (∀ n, n ∈ ids → n < N) → sumL F ids ≤ smN F N
  | [], _, _, _ => Nat.zero_le _
  | a :: ids, F, h, hb => by
    obtain ⟨h1, h2⟩ := List.nodup_cons.mp h
    have ih := sumL_smN (N := N) (ids := ids) (F := upR F a 0) h2 (fun n hn => hb n (List.mem_cons_of_mem _ hn))
    have e : sumL (upR F a 0) ids = sumL F ids := sumL_ext (fun n hn => upR_n (fun e => h1 (e ▸ hn)))
    rw [e] at ih
    rw [smN_up (hb a List.mem_cons_self)]
    show F a + sumL F ids ≤ _
    omega
/-- live documents of a view are few -/
theorem vG_len {sg : Nat → List Dc} {s : Vw} (h : vG sg s) (hb : ∀ n, n ∈ s.1 → ∀ d, d ∈ sg n → dK d < 100) : allN sg s.2 s.1 ≤ 100 := by
  rw [← mtL_cnt]
  obtain ⟨K, hK⟩ : ∃ K : Nat × Nat → Nat, K = fun y => dK ((sg y.1).getD y.2 ((0, 0, 0), [], [])) := ⟨_, rfl⟩
  have at' : ∀ y, y ∈ mtL sg s.2 s.1 → ∃ d, (sg y.1)[y.2]? = some d ∧ K y = dK d ∧ d ∈ sg y.1 := fun y hy => by
    obtain ⟨-, a2, -⟩ := mtL_mem hy
    obtain ⟨d, hd⟩ := get_ex (l := sg y.1) (k := y.2) a2
    refine ⟨d, hd, ?_, List.mem_of_getElem? hd⟩
    rw [hK]
    show dK ((sg y.1).getD y.2 _) = _
    rw [List.getD_eq_getElem?_getD, hd]; rfl
  have inj : ((mtL sg s.2 s.1).map K).Nodup := by
    refine nd_map (fun y hy z hz e => ?_) (mtL_nd h.1)
    obtain ⟨d, h1, h2, -⟩ := at' y hy
    obtain ⟨d', h3, h4, -⟩ := at' z hz
    obtain ⟨b1, b2, b3⟩ := mtL_mem hy
    obtain ⟨c1, c2, c3⟩ := mtL_mem hz
    have := h.2 (K y) y.1 y.2 d z.1 z.2 d' b1 c1 h1 h3 b3 c3 h2.symm (by rw [← h4, ← e])
    exact Prod.ext this.1 this.2
  have := nd_len (m := List.range 100) inj (fun q hq => by
    obtain ⟨y, hy, rfl⟩ := List.mem_map.mp hq
    obtain ⟨d, h1, h2, h3⟩ := at' y hy
    rw [h2]
    exact List.mem_range.mpr (hb y.1 (mtL_mem hy).1 d h3))
  rwa [List.length_map, List.length_range] at this
theorem min_ex {p : Nat → Prop} (h : ∃ i, p i) : ∃ k, p k ∧ ∀ i, i < k → ¬ p i := by
  obtain ⟨N, hN⟩ := h
  induction N using Nat.strongRecOn with
  | ind N ih =>
    by_cases c : ∃ i, i < N ∧ p i
    · obtain ⟨i, h1, h2⟩ := c
      exact ih i h1 h2
    · exact ⟨N, hN, fun i h1 h2 => c ⟨i, h1, h2⟩⟩
theorem sn_uq {sn : List (Nat × Vw)} (h : (sn.map (fun s => s.1)).Nodup) {s t : Nat × Vw} (hs : s ∈ sn) (ht : t ∈ sn) (e : s.1 = t.1) : s = t := by
  induction sn with
  | nil => exact absurd hs List.not_mem_nil
  | cons a sn ih =>
    rw [List.map_cons] at h
    obtain ⟨h1, h2⟩ := List.nodup_cons.mp h
    rcases List.mem_cons.mp hs with rfl | hs
    · rcases List.mem_cons.mp ht with rfl | ht
      · rfl
      · exact absurd (List.mem_map.mpr ⟨t, ht, e.symm⟩) h1
    · rcases List.mem_cons.mp ht with rfl | ht
      · exact absurd (show t.1 ∈ sn.map (fun s => s.1) from List.mem_map.mpr ⟨s, by assumption, e⟩) h1
      · exact ih h2 hs ht
section CASH
variable {S T U S8 : cS} {v v' : Nat → Int32} {f f' : Nat → Nat → Int32} {g g' : Nat → Nat → Int64} {dp x out k cd dd L : Nat} {x4 : Int32} {xs : Nat → Int32} {R : Int32 → Nat → Nat → cS → (Nat → Int32) → (Nat → Nat → Int32) → (Nat → Nat → Int64) → Prop}
theorem rSg_key {l : LGt} {made dn : Nat} {sg : Nat → List Dc} {hd : Nat → Nat → Nat} (h : rSg l v f g made dn sg hd) {n : Nat} (hn : n < made) : ∀ d, d ∈ sg n → dK d < 100 := fun d hd' => by
  obtain ⟨j, hj⟩ := List.mem_iff_getElem?.mp hd'
  exact ((h.2.2 n hn).2.2 j d hj).2.2.1.2
/-- a part of a view -/
theorem vG_sub {sg : Nat → List Dc} {s : Vw} {ids : List Nat} (h : vG sg s) (hs : ids.Sublist s.1) : vG sg (ids, s.2) := ⟨h.1.sublist hs, fun key n j d n' j' d' h1 h2 => h.2 key n j d n' j' d' (hs.subset h1) (hs.subset h2)⟩
theorem sn_ex {sn : List (Nat × Vw)} {sl : Nat → Option (Nat × Vw)} (h : sn.Perm ((List.range 5).filterMap sl)) {s : Nat × Vw} : s ∈ sn ↔ ∃ a, a < 5 ∧ sl a = some s := by
  rw [h.mem_iff, List.mem_filterMap]
  constructor
  · rintro ⟨a, h1, h2⟩
    exact ⟨a, List.mem_range.mp h1, h2⟩
  · rintro ⟨a, h1, h2⟩
    exact ⟨a, List.mem_range.mpr h1, h2⟩
end CASH
