/-! views: what has changed, files -/
/-- whether a segment has other live documents than a commit tells -/
def chB (sg : Nat → List Dc) (lv : Nat → Nat → Bool) (last : Option (List Nat × (Nat → Nat → Bool))) (n : Nat) : Bool := match last with
  | none => decide (cntB (lv n) (sg n).length < (sg n).length)
  | some x => if n ∈ x.1 then !(allB (fun j => lv n j == x.2 n j) (sg n).length) else decide (cntB (lv n) (sg n).length < (sg n).length)
def deB (sg : Nat → List Dc) (lv : Nat → Nat → Bool) (last : Option (List Nat × (Nat → Nat → Bool))) (n : Nat) : Bool := decide (cntB (lv n) (sg n).length < (sg n).length) && (match last with
  | none => true
  | some x => if n ∈ x.1 then !(allB (fun j => lv n j == x.2 n j) (sg n).length) else true)
/-- a view that may be missing -/
def vwO (S : cS) (dp : Nat) (so : Nat → Nat) (sd : Nat → List Nat) (sg : Nat → List Dc) : Option Nat → Option (List Nat × (Nat → Nat → Bool)) → Prop
  | none, none => True
  | some V, some x => ∃ hl m hs, vwT S dp so sd sg V hl m hs x.1 x.2
  | _, _ => False
section VD
variable {S T : cS} {dp V hl m : Nat} {so : Nat → Nat} {sd : Nat → List Nat} {sg : Nat → List Dc} {hs ids : List Nat} {lv : Nat → Nat → Bool} {o : Option Nat} {last : Option (List Nat × (Nat → Nat → Bool))}
theorem vw_inj {hl' m' V' : Nat} {hs' ids' : List Nat} {lv' : Nat → Nat → Bool} {n : Nat} (g' : vwT S dp so sd sg V' hl' m' hs' ids' lv') (gs : sgT S dp (so n) n (sd n) (sg n)) (hn : n < 1000) : ∀ n', n' ∈ ids' → so n' = so n → n' = n := by
  intro n' hn' e
  obtain ⟨i, hi⟩ := List.getElem?_of_mem hn'
  obtain ⟨y, hy⟩ := get_ex (l := hs') (k := i) (by have := get_lt hi; have := (vw_len g').1; omega)
  obtain ⟨gs', -, h1000, -⟩ := g'.2.2.2.2 i y n' hy hi
  have h1 := gs'.2.1
  rw [e, gs.2.1] at h1
  exact ((nI_eq (by omega) (by omega)).mp h1).symm
theorem q_changed {Q : Int32 → cS → Prop} (g : vwT S dp so sd sg V hl m hs ids lv) (go : vwO S dp so sd sg o last) (h : Q (nI (sumL (fun n => if chB sg lv last n = true then 1 else 0) ids)) S) : k_X10_changedSince Q dp V o S := by
  have hlen := vw_len g
  obtain ⟨g1, g2, g3, g4, g5⟩ := id g
  have core : k_X10_changedSince_4L Q dp V o (nI 0) (nI 0) S := by
    unfold k_X10_changedSince_4L
    refine lfp_cnt ids.length (fun k y => y = (V, o, nI (sumL (fun n => if chB sg lv last n = true then 1 else 0) (ids.take k)), nI k, S)) ?_ rfl
    rintro P k _ hk rfl ih
    show k_X10_changedSince_4 Q dp _ V o (nI (sumL (fun n => if chB sg lv last n = true then 1 else 0) (ids.take k))) (nI k) S
    have nxt : ∀ n c, ids[k]? = some n → c = sumL (fun n => if chB sg lv last n = true then 1 else 0) (ids.take k) + (if chB sg lv last n = true then 1 else 0) → k_X10_changedSince_76 Q dp (fun b0 b1 b2 b3 S => P (b0, b1, b2, b3, S)) V o (nI c) (nI k) S := by
      intro n c hn hc
      have : ∀ x3 : Int32, x3 = nI k + nI 1 → P (V, o, nI c, x3, S) := by
        rintro _ rfl
        rw [nI_add]
        refine ih _ (get_lt hn) ?_
        rw [sumL_take_s hn, hc]
      unfold k_X10_changedSince_76
      cases o with
      | none => exact ⟨fun _ => this, fun b e => nomatch e⟩
      | some b => exact ⟨fun e => (nomatch e), fun b' e => Option.some.inj e ▸ this⟩
    have nx1 : ∀ n, ids[k]? = some n → chB sg lv last n = true → k_X10_changedSince_73 Q dp (fun b0 b1 b2 b3 S => P (b0, b1, b2, b3, S)) V o (nI (sumL (fun n => if chB sg lv last n = true then 1 else 0) (ids.take k))) (nI k) S := by
      intro n hn hc
      have := nxt n _ hn rfl
      rw [if_pos hc] at this
      have this : ∀ x2 : Int32, x2 = nI (sumL (fun n => if chB sg lv last n = true then 1 else 0) (ids.take k)) + nI 1 → k_X10_changedSince_76 Q dp (fun b0 b1 b2 b3 S => P (b0, b1, b2, b3, S)) V o x2 (nI k) S := by
        rintro _ rfl
        rw [nI_add]; exact this
      unfold k_X10_changedSince_73
      cases o with
      | none => exact ⟨fun _ => this, fun b e => nomatch e⟩
      | some b => exact ⟨fun e => (nomatch e), fun b' e => Option.some.inj e ▸ this⟩
    have nx0 : ∀ n, ids[k]? = some n → chB sg lv last n = false → k_X10_changedSince_76 Q dp (fun b0 b1 b2 b3 S => P (b0, b1, b2, b3, S)) V o (nI (sumL (fun n => if chB sg lv last n = true then 1 else 0) (ids.take k))) (nI k) S := by
      intro n hn hc
      exact nxt n _ hn (by rw [hc]; rfl)
    -- the holding of the last one
    have p45 : ∀ (n y : Nat) (t : Option Nat), ids[k]? = some n → hs[k]? = some y → (t = none → chB sg lv last n = decide (cntB (lv n) (sg n).length < (sg n).length)) → (∀ z, t = some z → ∃ r lv', hoT S z (so n) r (sg n).length lv' ∧ chB sg lv last n = !(allB (fun j => lv n j == lv' j) (sg n).length)) → k_X10_changedSince_45 Q dp (fun b0 b1 b2 b3 S => P (b0, b1, b2, b3, S)) V o (nI (sumL (fun n => if chB sg lv last n = true then 1 else 0) (ids.take k))) (nI k) y t S := by
      intro n y t hn hy h1 h2
      obtain ⟨-, -, -, r, ho⟩ := g5 k y n hy hn
      have A : t = none → cA S y 2 ∧ k_X2_hasDead (fun r_9 S_9 => (r_9 = 0 → k_X10_changedSince_76 Q dp (fun b0 b1 b2 b3 S => P (b0, b1, b2, b3, S)) V o (nI (sumL (fun n => if chB sg lv last n = true then 1 else 0) (ids.take k))) (nI k) S_9) ∧ (¬ r_9 = 0 → k_X10_changedSince_73 Q dp (fun b0 b1 b2 b3 S => P (b0, b1, b2, b3, S)) V o (nI (sumL (fun n => if chB sg lv last n = true then 1 else 0) (ids.take k))) (nI k) S_9)) dp y S := fun e => ⟨ho.1, q_hasDead ho (w_b0 _ (fun c => nx0 n hn ((h1 e).trans c)) (fun c => nx1 n hn ((h1 e).trans c)))⟩
      have B : ∀ z, t = some z → cA S y 2 ∧ k_X2_isAlike (fun r_16 S_16 => (¬ r_16 = 0 → k_X10_changedSince_76 Q dp (fun b0 b1 b2 b3 S => P (b0, b1, b2, b3, S)) V o (nI (sumL (fun n => if chB sg lv last n = true then 1 else 0) (ids.take k))) (nI k) S_16) ∧ (r_16 = 0 → k_X10_changedSince_73 Q dp (fun b0 b1 b2 b3 S => P (b0, b1, b2, b3, S)) V o (nI (sumL (fun n => if chB sg lv last n = true then 1 else 0) (ids.take k))) (nI k) S_16)) dp y z S := fun z e => by
        obtain ⟨r', lv', ho', hc'⟩ := h2 z e
        exact ⟨ho.1, q_isAlike ho ho' (w_bn (allB (fun j => lv n j == lv' j) (sg n).length) (fun c => nx0 n hn (hc'.trans (by rw [c]; rfl))) (fun c => nx1 n hn (hc'.trans (by rw [c]; rfl))))⟩
      unfold k_X10_changedSince_45
      cases o with
      | none => exact ⟨fun _ => ⟨A, B⟩, fun b e => nomatch e⟩
      | some b => exact ⟨fun e => (nomatch e), fun b' e => by
        obtain rfl := Option.some.inj e
        exact ⟨A, B⟩⟩
    unfold k_X10_changedSince_4
    cases o with
    | none =>
      cases last with
      | some x => exact absurd go id
      | none =>
        refine ⟨fun _ => ⟨g1, hl, g2, g3.1, q_lsize g3 (pk_le hs.length k (fun z => ?_) (fun z => ?_))⟩, fun b e => nomatch e⟩
        · obtain rfl : k = ids.length := by omega
          rw [List.take_length]; exact h
        · obtain ⟨y, hy⟩ := get_ex z
          obtain ⟨n, hn⟩ := get_ex (l := ids) (k := k) (by omega)
          exact ⟨g1, hl, g2, g3.1, q_lget g3 hy ⟨g3.2.2.2.2.2.1 y (List.mem_of_getElem? hy), p45 n y none hn hy (fun _ => rfl) (fun z e => nomatch e)⟩⟩
    | some V' =>
      cases last with
      | none => exact absurd go id
      | some x =>
        obtain ⟨hl', m', hs', g'⟩ := go
        refine ⟨fun e => (nomatch e), fun b e => ?_⟩
        obtain rfl := Option.some.inj e
        refine ⟨g1, hl, g2, g3.1, q_lsize g3 (pk_le hs.length k (fun z => ?_) (fun z => ?_))⟩
        · obtain rfl : k = ids.length := by omega
          rw [List.take_length]; exact h
        · obtain ⟨y, hy⟩ := get_ex z
          obtain ⟨n, hn⟩ := get_ex (l := ids) (k := k) (by omega)
          obtain ⟨gs, gN, g1000, r, ho⟩ := g5 k y n hy hn
          refine ⟨g1, hl, g2, g3.1, q_lget g3 hy ⟨ho.1, ho.1, so n, ho.2.1, g'.1, q_vholdingOf g' (vw_inj g' gs g1000) (fun j z hj hz => ?_) (fun hno => ?_)⟩⟩
          · obtain ⟨-, -, -, r', ho'⟩ := g'.2.2.2.2 j z n hz hj
            refine ⟨fun e => (nomatch e), fun b e => ?_⟩
            obtain rfl := Option.some.inj e
            exact p45 n y (some z) hn hy (fun e => nomatch e) (fun z' e => by
              obtain rfl := Option.some.inj e
              exact ⟨r', x.2 n, ho', if_pos (List.mem_of_getElem? hj)⟩)
          · exact ⟨fun _ => p45 n y none hn hy (fun _ => if_neg hno) (fun z e => nomatch e), fun b e => nomatch e⟩
  unfold k_X10_changedSince
  cases o with
  | none => exact ⟨fun _ => core, fun b e => nomatch e⟩
  | some V' => exact ⟨fun e => (nomatch e), fun b e => Option.some.inj e ▸ core⟩
theorem q_deletions {Q : Int32 → cS → Prop} (g : vwT S dp so sd sg V hl m hs ids lv) (go : vwO S dp so sd sg o last) (h : Q (nI (sumL (fun n => if deB sg lv last n = true then 1 else 0) ids)) S) : k_X10_deletionFiles Q dp V o S := by
  have hlen := vw_len g
  obtain ⟨g1, g2, g3, g4, g5⟩ := id g
  have core : k_X10_deletionFiles_4L Q dp V o (nI 0) (nI 0) S := by
    unfold k_X10_deletionFiles_4L
    refine lfp_cnt ids.length (fun k y => y = (V, o, nI (sumL (fun n => if deB sg lv last n = true then 1 else 0) (ids.take k)), nI k, S)) ?_ rfl
    rintro P k _ hk rfl ih
    show k_X10_deletionFiles_4 Q dp _ V o (nI (sumL (fun n => if deB sg lv last n = true then 1 else 0) (ids.take k))) (nI k) S
    have nxt : ∀ n c, ids[k]? = some n → c = sumL (fun n => if deB sg lv last n = true then 1 else 0) (ids.take k) + (if deB sg lv last n = true then 1 else 0) → k_X10_deletionFiles_73 Q dp (fun b0 b1 b2 b3 S => P (b0, b1, b2, b3, S)) V o (nI c) (nI k) S := by
      intro n c hn hc
      have : ∀ x3 : Int32, x3 = nI k + nI 1 → P (V, o, nI c, x3, S) := by
        rintro _ rfl
        rw [nI_add]
        refine ih _ (get_lt hn) ?_
        rw [sumL_take_s hn, hc]
      unfold k_X10_deletionFiles_73
      cases o with
      | none => exact ⟨fun _ => this, fun b e => nomatch e⟩
      | some b => exact ⟨fun e => (nomatch e), fun b' e => Option.some.inj e ▸ this⟩
    have nx1 : ∀ n, ids[k]? = some n → deB sg lv last n = true → k_X10_deletionFiles_70 Q dp (fun b0 b1 b2 b3 S => P (b0, b1, b2, b3, S)) V o (nI (sumL (fun n => if deB sg lv last n = true then 1 else 0) (ids.take k))) (nI k) S := by
      intro n hn hc
      have := nxt n _ hn rfl
      rw [if_pos hc] at this
      have this : ∀ x2 : Int32, x2 = nI (sumL (fun n => if deB sg lv last n = true then 1 else 0) (ids.take k)) + nI 1 → k_X10_deletionFiles_73 Q dp (fun b0 b1 b2 b3 S => P (b0, b1, b2, b3, S)) V o x2 (nI k) S := by
        rintro _ rfl
        rw [nI_add]; exact this
      unfold k_X10_deletionFiles_70
      cases o with
      | none => exact ⟨fun _ => this, fun b e => nomatch e⟩
      | some b => exact ⟨fun e => (nomatch e), fun b' e => Option.some.inj e ▸ this⟩
    have nx0 : ∀ n, ids[k]? = some n → deB sg lv last n = false → k_X10_deletionFiles_73 Q dp (fun b0 b1 b2 b3 S => P (b0, b1, b2, b3, S)) V o (nI (sumL (fun n => if deB sg lv last n = true then 1 else 0) (ids.take k))) (nI k) S := by
      intro n hn hc
      exact nxt n _ hn (by rw [hc]; rfl)
    have p45 : ∀ (n y : Nat) (t : Option Nat), ids[k]? = some n → hs[k]? = some y → (t = none → deB sg lv last n = decide (cntB (lv n) (sg n).length < (sg n).length)) → (∀ z, t = some z → ∃ r lv', hoT S z (so n) r (sg n).length lv' ∧ deB sg lv last n = (decide (cntB (lv n) (sg n).length < (sg n).length) && !(allB (fun j => lv n j == lv' j) (sg n).length))) → k_X10_deletionFiles_45 Q dp (fun b0 b1 b2 b3 S => P (b0, b1, b2, b3, S)) V o (nI (sumL (fun n => if deB sg lv last n = true then 1 else 0) (ids.take k))) (nI k) y t S := by
      intro n y t hn hy h1 h2
      obtain ⟨-, -, -, r, ho⟩ := g5 k y n hy hn
      have A : t = none → cA S y 2 ∧ k_X2_hasDead (fun r_9 S_9 => (r_9 = 0 → k_X10_deletionFiles_73 Q dp (fun b0 b1 b2 b3 S => P (b0, b1, b2, b3, S)) V o (nI (sumL (fun n => if deB sg lv last n = true then 1 else 0) (ids.take k))) (nI k) S_9) ∧ (¬ r_9 = 0 → k_X10_deletionFiles_70 Q dp (fun b0 b1 b2 b3 S => P (b0, b1, b2, b3, S)) V o (nI (sumL (fun n => if deB sg lv last n = true then 1 else 0) (ids.take k))) (nI k) S_9)) dp y S := fun e => ⟨ho.1, q_hasDead ho (w_b0 _ (fun c => nx0 n hn ((h1 e).trans c)) (fun c => nx1 n hn ((h1 e).trans c)))⟩
      have B : ∀ z, t = some z → cA S y 2 ∧ k_X2_hasDead (fun r_16 S_16 => (r_16 = 0 → k_X10_deletionFiles_73 Q dp (fun b0 b1 b2 b3 S => P (b0, b1, b2, b3, S)) V o (nI (sumL (fun n => if deB sg lv last n = true then 1 else 0) (ids.take k))) (nI k) S_16) ∧ (¬ r_16 = 0 → cA S_16 y 2 ∧ k_X2_isAlike (fun r_17 S_17 => (¬ r_17 = 0 → k_X10_deletionFiles_73 Q dp (fun b0 b1 b2 b3 S => P (b0, b1, b2, b3, S)) V o (nI (sumL (fun n => if deB sg lv last n = true then 1 else 0) (ids.take k))) (nI k) S_17) ∧ (r_17 = 0 → k_X10_deletionFiles_70 Q dp (fun b0 b1 b2 b3 S => P (b0, b1, b2, b3, S)) V o (nI (sumL (fun n => if deB sg lv last n = true then 1 else 0) (ids.take k))) (nI k) S_17)) dp y z S_16)) dp y S := fun z e => by
        obtain ⟨r', lv', ho', hc'⟩ := h2 z e
        exact ⟨ho.1, q_hasDead ho (w_b0 (decide (cntB (lv n) (sg n).length < (sg n).length)) (fun c => nx0 n hn (hc'.trans (by rw [c]; rfl))) (fun c0 => ⟨ho.1, q_isAlike ho ho' (w_bn (allB (fun j => lv n j == lv' j) (sg n).length) (fun c => nx0 n hn (hc'.trans (by rw [c0, c]; rfl))) (fun c => nx1 n hn (hc'.trans (by rw [c0, c]; rfl))))⟩))⟩
      unfold k_X10_deletionFiles_45
      cases o with
      | none => exact ⟨fun _ => ⟨A, B⟩, fun b e => nomatch e⟩
      | some b => exact ⟨fun e => (nomatch e), fun b' e => by
        obtain rfl := Option.some.inj e
        exact ⟨A, B⟩⟩
    unfold k_X10_deletionFiles_4
    cases o with
    | none =>
      cases last with
      | some x => exact absurd go id
      | none =>
        refine ⟨fun _ => ⟨g1, hl, g2, g3.1, q_lsize g3 (pk_le hs.length k (fun z => ?_) (fun z => ?_))⟩, fun b e => nomatch e⟩
        · obtain rfl : k = ids.length := by omega
          rw [List.take_length]; exact h
        · obtain ⟨y, hy⟩ := get_ex z
          obtain ⟨n, hn⟩ := get_ex (l := ids) (k := k) (by omega)
          exact ⟨g1, hl, g2, g3.1, q_lget g3 hy ⟨g3.2.2.2.2.2.1 y (List.mem_of_getElem? hy), p45 n y none hn hy (fun _ => Bool.and_true _) (fun z e => nomatch e)⟩⟩
    | some V' =>
      cases last with
      | none => exact absurd go id
      | some x =>
        obtain ⟨hl', m', hs', g'⟩ := go
        refine ⟨fun e => (nomatch e), fun b e => ?_⟩
        obtain rfl := Option.some.inj e
        refine ⟨g1, hl, g2, g3.1, q_lsize g3 (pk_le hs.length k (fun z => ?_) (fun z => ?_))⟩
        · obtain rfl : k = ids.length := by omega
          rw [List.take_length]; exact h
        · obtain ⟨y, hy⟩ := get_ex z
          obtain ⟨n, hn⟩ := get_ex (l := ids) (k := k) (by omega)
          obtain ⟨gs, gN, g1000, r, ho⟩ := g5 k y n hy hn
          refine ⟨g1, hl, g2, g3.1, q_lget g3 hy ⟨ho.1, ho.1, so n, ho.2.1, g'.1, q_vholdingOf g' (vw_inj g' gs g1000) (fun j z hj hz => ?_) (fun hno => ?_)⟩⟩
          · obtain ⟨-, -, -, r', ho'⟩ := g'.2.2.2.2 j z n hz hj
            refine ⟨fun e => (nomatch e), fun b e => ?_⟩
            obtain rfl := Option.some.inj e
            exact p45 n y (some z) hn hy (fun e => nomatch e) (fun z' e => by
              obtain rfl := Option.some.inj e
              refine ⟨r', x.2 n, ho', ?_⟩
              unfold deB
              simp only [List.mem_of_getElem? hj, if_true])
          · refine ⟨fun _ => p45 n y none hn hy (fun _ => ?_) (fun z e => nomatch e), fun b e => nomatch e⟩
            unfold deB
            simp only [hno, if_false, Bool.and_true]
  unfold k_X10_deletionFiles
  cases o with
  | none => exact ⟨fun _ => core, fun b e => nomatch e⟩
  | some V' => exact ⟨fun e => (nomatch e), fun b e => Option.some.inj e ▸ core⟩
/-- files that were not seen: seen, and how many were new -/
def seenF (f : Nat → Bool) : List Nat → (Nat → Bool) × Nat
  | [] => (f, 0)
  | n :: l => if f n = true then seenF f l else ((seenF (upR f n true) l).1, (seenF (upR f n true) l).2 + 1)
theorem q_newFiles {Q : Int32 → cS → Prop} {b M : Nat} {f : Nat → Bool} (g : vwT S dp so sd sg V hl m hs ids lv) (bA : cA S b 16) (bn : cn S b = M) (hM : M ≤ 1000) (hids : ∀ n, n ∈ ids → n < M) (hf : ∀ j, j < M → cI S b j = bI (f j)) (h : ∀ T, cSub S T (fun z => z = b) → (∀ j, j < M → cI T b j = bI ((seenF f ids).1 j)) → Q (nI (seenF f ids).2) T) : k_X10_newFiles Q dp V b S := by
  have hlen := vw_len g
  obtain ⟨g1, g2, g3, g4, g5⟩ := id g
  have nb : ∀ {a kk : Nat}, cA S a kk → kk ≠ 16 → ¬ a = b := fun ha hk => cA_ne ha bA hk
  have nlF : ∀ z, lsF S dp hl z → ¬ z = b := by
    intro z hz
    obtain ⟨l1, -, -, -, -, -, c, hc, hx⟩ := g3
    rcases hz with w | ⟨w, w2⟩
    · rw [w]; exact nb l1 (by decide)
    · obtain rfl : c = z := Option.some.inj (hc.symm.trans w)
      rcases hx with hx | hx
      · exact absurd hx.1 w2
      · exact nb hx.2.2.1 (by decide)
  have seen_split : ∀ (k : Nat) (f : Nat → Bool), seenF f ids = ((seenF (seenF f (ids.take k)).1 (ids.drop k)).1, (seenF f (ids.take k)).2 + (seenF (seenF f (ids.take k)).1 (ids.drop k)).2) := by
    have : ∀ (l r : List Nat) (f : Nat → Bool), seenF f (l ++ r) = ((seenF (seenF f l).1 r).1, (seenF f l).2 + (seenF (seenF f l).1 r).2) := by
      intro l r
      induction l with
      | nil => intro f; rw [List.nil_append]; show seenF f r = ((seenF f r).1, 0 + (seenF f r).2); rw [Nat.zero_add]
      | cons n l ih =>
        intro f
        rw [List.cons_append]
        by_cases c : f n = true
        · rw [show seenF f (n :: (l ++ r)) = seenF f (l ++ r) from if_pos c, show seenF f (n :: l) = seenF f l from if_pos c]
          exact ih f
        · rw [show seenF f (n :: (l ++ r)) = ((seenF (upR f n true) (l ++ r)).1, (seenF (upR f n true) (l ++ r)).2 + 1) from if_neg c, show seenF f (n :: l) = ((seenF (upR f n true) l).1, (seenF (upR f n true) l).2 + 1) from if_neg c, ih]
          simp only [Prod.mk.injEq, true_and]
          omega
    intro k f
    have h1 := this (ids.take k) (ids.drop k) f
    rw [List.take_append_drop] at h1
    exact h1
  have seen_s : ∀ (k n : Nat), ids[k]? = some n → seenF f (ids.take (k + 1)) = if (seenF f (ids.take k)).1 n = true then seenF f (ids.take k) else (upR (seenF f (ids.take k)).1 n true, (seenF f (ids.take k)).2 + 1) := by
    have : ∀ (l : List Nat) (n : Nat) (f : Nat → Bool), seenF f (l ++ [n]) = if (seenF f l).1 n = true then seenF f l else (upR (seenF f l).1 n true, (seenF f l).2 + 1) := by
      intro l n
      induction l with
      | nil => intro f; rfl
      | cons a l ih =>
        intro f
        rw [List.cons_append]
        by_cases c : f a = true
        · rw [show seenF f (a :: (l ++ [n])) = seenF f (l ++ [n]) from if_pos c, show seenF f (a :: l) = seenF f l from if_pos c]
          exact ih f
        · rw [show seenF f (a :: (l ++ [n])) = ((seenF (upR f a true) (l ++ [n])).1, (seenF (upR f a true) (l ++ [n])).2 + 1) from if_neg c, show seenF f (a :: l) = ((seenF (upR f a true) l).1, (seenF (upR f a true) l).2 + 1) from if_neg c, ih]
          by_cases c2 : (seenF (upR f a true) l).1 n = true
          · simp only [c2, if_true]
          · simp only [c2, if_false]
            rfl
    intro k n hn
    rw [List.take_succ, hn]
    exact this _ _ _
  unfold k_X10_newFiles k_X10_newFiles_4L
  refine lfp_cnt ids.length (fun k y => ∃ S', cSub S S' (fun z => z = b) ∧ (∀ j, j < M → cI S' b j = bI ((seenF f (ids.take k)).1 j)) ∧ y = (V, b, nI (seenF f (ids.take k)).2, nI k, S')) ?_ ⟨S, sub_rf, hf, rfl⟩
  rintro P k _ hk ⟨S', s, hr, rfl⟩ ih
  show k_X10_newFiles_4 Q dp _ V b (nI (seenF f (ids.take k)).2) (nI k) S'
  have g1' := sub_A1 s g1
  have g2' := (sub_cr s g1 (nb g1 (by decide))).trans g2
  have g3' := lsT_sub s g3 nlF
  unfold k_X10_newFiles_4
  refine ⟨g1', hl, g2', g3'.1, q_lsize g3' (pk_le hs.length k (fun z => ?_) (fun z => ?_))⟩
  · obtain rfl : k = ids.length := by omega
    rw [List.take_length] at hr ⊢
    exact h S' s hr
  · obtain ⟨y, hy⟩ := get_ex z
    obtain ⟨n, hn⟩ := get_ex (l := ids) (k := k) (by omega)
    obtain ⟨gs, gN, g1000, r, ho⟩ := g5 k y n hy hn
    have hnM := hids n (List.mem_of_getElem? hn)
    have hss := seen_s k n hn
    have nxt : ∀ (T : cS) (c : Nat), cSub S T (fun z => z = b) → (∀ j, j < M → cI T b j = bI ((seenF f (ids.take (k + 1))).1 j)) → c = (seenF f (ids.take (k + 1))).2 → k_X10_newFiles_61 Q dp (fun b0 b1 b2 b3 S => P (b0, b1, b2, b3, S)) V b (nI c) (nI k) T := by
      rintro T _ sT hT rfl
      unfold k_X10_newFiles_61
      rintro _ rfl
      rw [nI_add]
      exact ih _ (get_lt hn) ⟨T, sT, hT, rfl⟩
    have bA' := sub_A1 s bA
    have bn' := (sub_cn s bA).trans bn
    refine ⟨g1', hl, g2', g3'.1, q_lget g3' hy ⟨sub_A1 s ho.1, sub_A1 s ho.1, so n, (sub_cr s ho.1 (nb ho.1 (by decide))).trans ho.2.1, sub_A1 s gs.1, ?_⟩⟩
    rw [(sub_ci s gs.1 (nb gs.1 (by decide))).trans gs.2.1]
    rintro _ rfl
    have hX : cX S' b 16 (nI n) := cX_mk bA' bn' (by omega) hnM rfl
    refine w_pos n ⟨bA', (w_nle M n (fun _ => ⟨hX, ?_⟩) (fun w => absurd w (by omega)) (by rw [bn']) rfl).symm⟩
    rw [nI_clamp (by omega), hr n hnM]
    refine w_bn _ (fun c => ?_) (fun c => ⟨hX, fun S8 e8 => ?_⟩)
    · rw [if_pos c] at hss
      exact nxt S' _ s (by rw [hss]; exact hr) (by rw [hss])
    · rw [if_neg (by rw [c]; decide)] at hss
      rintro _ rfl
      rw [nI_add]
      refine nxt S8 _ (sub_tr s (e8 ▸ sub_SI (F := fun z => z = b) rfl) (fun _ _ w => w)) (fun j hj => ?_) (by rw [hss])
      rw [hI_SI_e e8 rfl, hss]
      show upR (cI S' b) n (bI true) j = bI (upR (seenF f (ids.take k)).1 n true j)
      by_cases e : j = n
      · rw [upR_e e, upR_e e]
      · rw [upR_n e, upR_n e]; exact hr j hj
end VD
