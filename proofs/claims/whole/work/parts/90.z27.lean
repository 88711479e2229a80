/-! the reference: passages -/
section PC
variable {v v' : Nat → Int32} {f f' : Nat → Nat → Int32} {g g' : Nat → Nat → Int64}
/-- the choice rows alone were written -/
def psF (f f' : Nat → Nat → Int32) : Prop := ∀ n, n ∉ [62, 63, 64] → f' n = f n
theorem psF_rf : psF f f := fun _ _ => rfl
theorem psF_tr {f'' : Nat → Nat → Int32} (h : psF f f') (h2 : psF f' f'') : psF f f'' := fun n hn => (h2 n hn).trans (h n hn)
theorem psL_at {sp : Nat → Option Nat} {k c : Nat} {l : List Nat} (h : spOk sp k) (hc : 1 ≤ c) (hno : ∀ c', 1 ≤ c' → c' < c → fpN sp (mkF sp k) c' [] = none) (hl : fpN sp (mkF sp k) c [] = some l) : psL sp (mkF sp k) = l := by
  have m0 : mkF sp k ≠ 0 := by
    intro e
    rw [fpN_0, e] at hl
    have : plc 0 20 0 = [] := List.eq_nil_iff_forall_not_mem.mpr (fun p hp => by
      have := (plc_mem.mp hp).2.2
      rw [Nat.zero_testBit] at this; exact absurd this (by decide))
    rw [this, cmbL_few c [] (by show 0 < c; omega)] at hl
    exact absurd hl (by simp)
  obtain ⟨c4, h1, h2, h3⟩ := cov4 h m0
  unfold psL
  rw [if_neg m0]
  refine psG_some hl hc ?_ (fun c' a b => hno c' a b)
  rcases Nat.lt_or_ge c 5 with z | z
  · omega
  · exact absurd (hno c4 h1 (by omega)) h3
theorem psL_no {sp : Nat → Option Nat} {k n : Nat} (hn : (plc (mkF sp k) 20 0).length = n) (hno : ∀ c', 1 ≤ c' → c' ≤ n → fpN sp (mkF sp k) c' [] = none) : psL sp (mkF sp k) = [] := by
  unfold psL
  split
  · rfl
  · refine psG_none (fun c' a b => ?_)
    rcases Nat.lt_or_ge n c' with z | z
    · rw [fpN_0, cmbL_few c' _ (by omega)]; rfl
    · exact hno c' a z
theorem chT_at {n : Nat} {e : Option (List Nat)} : ∀ {l : List (List Nat)} {i : Nat} {x : List Nat}, chT n l e → l[i]? = some x → nxC n x = (match l[i + 1]? with
    | none => e
    | some y => some y)
  | [], i, x, _, h => absurd (get_lt h) (Nat.not_lt_zero i)
  | [a], 0, x, h, hx => by
    have : a = x := Option.some.inj hx
    rw [← this]; exact h.1
  | a :: b :: l, 0, x, h, hx => by
    have : a = x := Option.some.inj hx
    rw [← this]; exact h.1
  | a :: l, i + 1, x, h, hx => chT_at (l := l) (i := i) h.2 hx
theorem find_at {α : Type} {G : α → Bool} {x : α} : ∀ {C : List α} {i : Nat}, (∀ i' d, i' < i → C[i']? = some d → G d = false) → C[i]? = some x → G x = true → C.find? G = some x
  | [], i, _, h, _ => absurd (get_lt h) (Nat.not_lt_zero i)
  | a :: C, 0, _, h, hg => by
    have : a = x := Option.some.inj h
    rw [List.find?_cons, this, hg]
  | a :: C, i + 1, hb, h, hg => by
    rw [List.find?_cons, hb 0 a (by omega) rfl]
    exact find_at (C := C) (i := i) (fun i' d h1 h2 => hb (i' + 1) d (by omega) h2) h hg
theorem p_passes {Q : QI} {sp : Nat → Option Nat} {k : Nat} (hsp : spOk sp k) (h92 : v 92 = nI (mlL sp k).length) (h61 : ∀ i x, (mlL sp k)[i]? = some x → f 61 i = nI x) (h : ∀ f', psF f f' → (∀ j p, (psL sp (mkF sp k))[j]? = some p → f' 64 j = nI p) → Q (nI (psL sp (mkF sp k)).length) v f' g) : r_passes Q (nI (mkF sp k)) v f g := by
  obtain ⟨mk, hmk⟩ : ∃ mk, mk = mkF sp k := ⟨_, rfl⟩
  have mk20 := sp_mkF hsp
  have hnoL := fun c l => psL_at (c := c) (l := l) hsp
  have hnoN := psL_no (sp := sp) (k := k) (n := (plc (mkF sp k) 20 0).length) rfl
  rw [← hmk] at mk20 h hnoL hnoN ⊢
  have ml24 : (mlL sp k).length ≤ 24 := by
    have : ∀ j, (mlL sp j).length ≤ j := fun j => by
      induction j with
      | zero => exact Nat.le_refl _
      | succ j ih =>
        rw [mlL, List.length_append]
        cases sp j with
        | none => show _ + 0 ≤ _; omega
        | some x => show _ + 1 ≤ _; omega
    have := this k
    have := hsp.1
    omega
  unfold r_passes r_passes_4L
  refine lfp_cnt 20 (fun i y => ∃ f2, psF f f2 ∧ (∀ j p, (plc mk i 0)[j]? = some p → f2 62 j = nI p) ∧ y = (nI mk, nI (plc mk i 0).length, nI i, v, f2, g)) ?_ ⟨f, psF_rf, fun j p hj => absurd (get_lt hj) (Nat.not_lt_zero j), rfl⟩
  rintro P i _ hi ⟨f2, s2, h62, rfl⟩ ih
  show r_passes_4 Q _ (nI mk) (nI (plc mk i 0).length) (nI i) v f2 g
  have pl := plc_len (mk := mk) i 0
  have ps : plc mk (i + 1) 0 = plc mk i 0 ++ if mk.testBit i = true then [i] else [] := by
    rw [plc_add, Nat.zero_add, plc, plc, List.append_nil]
  unfold r_passes_4
  refine pk_le 20 i (fun z => ?_) (fun z => ?_)
  · obtain rfl : i = 20 := by omega
    obtain ⟨PL, hPL⟩ : ∃ PL, PL = plc mk 20 0 := ⟨_, rfl⟩
    obtain ⟨n, hn⟩ : ∃ n, n = PL.length := ⟨_, rfl⟩
    rw [← hPL] at h62 pl ⊢
    rw [← hPL, ← hn] at hnoN
    rw [← hn] at pl ⊢
    have PLp : ∀ i, i ∈ PL → i < 20 := fun i hi => by
      rw [hPL] at hi
      have := (plc_mem.mp hi).2.1
      omega
    have PLr : PL = (List.range' 0 n).map (fun i => PL.getD i 0) := by
      refine List.ext_getElem? (fun j => ?_)
      rw [List.getElem?_map]
      rcases Nat.lt_or_ge j n with z | z
      · rw [List.getElem?_range' z, Nat.zero_add, Nat.one_mul]
        show PL[j]? = some (PL.getD j 0)
        obtain ⟨p, hp⟩ := get_ex (l := PL) (k := j) (by omega)
        rw [List.getD_eq_getElem?_getD, hp]; rfl
      · rw [List.getElem?_eq_none (by omega), List.getElem?_eq_none (by rw [List.length_range']; omega)]; rfl
    have fpE : ∀ c, fpN sp mk c [] = ((cmbL c (List.range' 0 n)).find? (fun x => cvB sp (orP (x.map (fun i => PL.getD i 0))))).map (fun x => x.map (fun i => PL.getD i 0)) := fun c => by
      rw [fpN_0, ← hPL]
      conv => lhs; rw [PLr]
      rw [cmbL_map, find_map]
    unfold r_passes_37L
    refine lfp_ind (fun y => ∃ c f2, 1 ≤ c ∧ c ≤ n + 1 ∧ psF f f2 ∧ (∀ j p, PL[j]? = some p → f2 62 j = nI p) ∧ (∀ c', 1 ≤ c' → c' < c → fpN sp mk c' [] = none) ∧ y = (nI n, nI c, v, f2, g)) (fun y => 64 - y.2.1.toNatClampNeg) ?_ ⟨1, f2, Nat.le_refl _, by omega, s2, h62, fun c' a b => by omega, rfl⟩
    rintro P2 _ ⟨c, f3, c1, cn, s3, i62, hno, rfl⟩ ih2
    show r_passes_37 Q _ (nI n) (nI c) v f3 g
    unfold r_passes_37
    refine pk_lt n c (fun z2 => ?_) (fun z2 => ?_)
    · have e := hnoN (fun c' a b => hno c' a (by omega))
      rw [e] at h
      exact h f3 s3 (fun j p hj => absurd (get_lt hj) (Nat.not_lt_zero j))
    unfold r_passes_45L
    refine lfp_cnt c (fun j y => ∃ f4, psF f f4 ∧ (∀ j p, PL[j]? = some p → f4 62 j = nI p) ∧ (∀ p, p < j → f4 63 p = nI p) ∧ y = (nI n, nI c, nI j, v, f4, g)) ?_ ⟨f3, s3, i62, fun p hp => absurd hp (Nat.not_lt_zero p), rfl⟩
    rintro P3 j _ hj ⟨f4, s4, j62, j63, rfl⟩ ih3
    show r_passes_45 Q _ _ (nI n) (nI c) (nI j) v f4 g
    unfold r_passes_45
    refine pk_le c j (fun z3 => ?_) (fun z3 => ?_)
    · obtain rfl : j = c := by omega
      obtain ⟨C, hC⟩ : ∃ C, C = cmbL j (List.range' 0 n) := ⟨_, rfl⟩
      have CX : ∀ x, x ∈ C → x.length = j ∧ (∀ p i, x[p]? = some i → i + j ≤ n + p) ∧ ∀ i, i ∈ x → i < PL.length := by
        intro x hx
        rw [hC] at hx
        have l1 := cmbL_len hx
        have l2 := cmbR_lt hx
        refine ⟨l1, fun p i hp => by have := (l2 p i hp).1; omega, fun i hi => ?_⟩
        obtain ⟨p, hp⟩ := List.mem_iff_getElem?.mp hi
        have := (l2 p i hp).1
        have := get_lt hp
        omega
      have fpE := fpE j
      rw [← hC] at fpE
      obtain ⟨R0, hR0⟩ := cmbR_head (d := j) (k := n) (a := 0) (by omega)
      rw [← hC] at hR0
      have hch : chT n C none := by rw [hC]; exact cmbR_ch (by omega)
      obtain ⟨G, hG⟩ : ∃ G : List Nat → Bool, G = fun x => cvB sp (orP (x.map (fun i => PL.getD i 0))) := ⟨_, rfl⟩
      rw [← hG] at fpE
      have x63 : ∀ p i, (List.range' 0 j)[p]? = some i → f4 63 p = nI i := fun p i hp => by
        have pl2 := get_lt hp
        rw [List.length_range'] at pl2
        rw [List.getElem?_range' pl2, Nat.zero_add, Nat.one_mul] at hp
        rw [← Option.some.inj hp]; exact j63 p pl2
      have X0 := CX (List.range' 0 j) (by rw [hR0]; exact List.mem_cons_self)
      refine p_chooses X0.1 (by omega) (by omega) X0.2.2 x63 j62 (fun f5 s5 h64 => ?_)
      have psf5 : ∀ {fa fb : Nat → Nat → Int32} (w : Nat), w = 63 ∨ w = 64 → (∀ n, n ≠ w → fb n = fa n) → psF fa fb := fun w hw hh n hn => hh n (fun e => by
        rcases hw with hw | hw
        · exact hn (by rw [e, hw]; decide)
        · exact hn (by rw [e, hw]; decide))
      unfold r_passes_74L
      refine lfp_cnt C.length (fun i y => ∃ f6, psF f f6 ∧ (∀ j p, PL[j]? = some p → f6 62 j = nI p) ∧ (∀ i' d, i' < i → C[i']? = some d → G d = false) ∧ ((∃ x, C[i]? = some x ∧ (∀ p i, x[p]? = some i → f6 63 p = nI i) ∧ (∀ p i, (x.map (fun i => PL.getD i 0))[p]? = some i → f6 64 p = nI i) ∧ y = (nI n, nI j, nI 1, v, f6, g)) ∨ (C.length ≤ i ∧ y = (nI n, nI j, nI 0, v, f6, g)))) ?_ ⟨f5, psF_tr s4 (psf5 64 (Or.inr rfl) s5), fun j p hj => by rw [s5 62 (by decide)]; exact j62 j p hj, fun i' d hi' => absurd hi' (Nat.not_lt_zero i'), Or.inl ⟨List.range' 0 j, by rw [hR0]; rfl, fun p i hp => by rw [s5 63 (by decide)]; exact x63 p i hp, h64, rfl⟩⟩
      rintro P4 i _ hiC ⟨f6, s6, k62, kf, hy⟩ ih4
      rcases hy with ⟨x, hx, k63, k64, rfl⟩ | ⟨hCi, rfl⟩
      · show r_passes_74 Q _ _ (nI n) (nI j) (nI 1) v f6 g
        obtain ⟨X1, X2, X3⟩ := CX x (List.mem_of_getElem? hx)
        have iC := get_lt hx
        have Ll : (x.map (fun i => PL.getD i 0)).length = j := by rw [List.length_map, X1]
        have Lne : x.map (fun i => PL.getD i 0) ≠ [] := fun e => by rw [e] at Ll; exact absurd Ll (by show ¬ 0 = j; omega)
        have eG : (mlL sp k).all (fun m => !(m &&& orP (x.map (fun i => PL.getD i 0)) == 0)) = G x := by
          rw [hG, Bool.eq_iff_iff, cvB_ml hsp.1 hsp.2.1 (orP_ne Lne), List.all_eq_true]
          constructor
          · intro w m hm; simpa using w m hm
          · intro w m hm; simpa using w m hm
        unfold r_passes_74
        refine ⟨fun w => absurd w (by decide), fun _ => ?_⟩
        refine p_areMet (L := x.map (fun i => PL.getD i 0)) Ll (by omega) (fun p q hp => ⟨k64 p q hp, ?_⟩) h92 ml24 (fun p m hp => ⟨by rw [s6 61 (by decide)]; exact h61 p m hp, ?_⟩) ?_
        · rw [List.getElem?_map] at hp
          cases hxp : x[p]? with
          | none => rw [hxp] at hp; exact absurd hp (by simp)
          | some i0 =>
            rw [hxp] at hp
            have e0 : PL.getD i0 0 = q := Option.some.inj hp
            obtain ⟨q', hq'⟩ := get_ex (l := PL) (k := i0) (X3 i0 (List.mem_of_getElem? hxp))
            rw [List.getD_eq_getElem?_getD, hq'] at e0
            have : q' = q := e0
            rw [← this]
            exact PLp q' (List.mem_of_getElem? hq')
        · obtain ⟨i0, -, hs⟩ := mlL_mem.mp (List.mem_of_getElem? hp)
          exact (hsp.2.2 i0 m hs).2
        rw [eG]
        have at1 := chT_at hch hx
        refine w_B0 (fun eg => ?_) (fun eg => ?_)
        · have kf2 : ∀ i' d, i' < i + 1 → C[i']? = some d → G d = false := fun i' d h1 h2 => by
            by_cases c : i' = i
            · rw [c, hx] at h2
              rw [← Option.some.inj h2]; exact eg
            · exact kf i' d (by omega) h2
          refine p_goesOn X1 c1 (by omega) (by omega) X2 k63 (fun hnx => ?_) (fun y hnx f7 t1 t2 => ?_)
          · refine p_chooses X1 (by omega) (by omega) X3 k63 k62 (fun f8 u1 u2 => ?_)
            refine ih4 _ iC ⟨f8, psF_tr s6 (psf5 64 (Or.inr rfl) u1), fun j p hj => by rw [u1 62 (by decide)]; exact k62 j p hj, kf2, Or.inr ⟨?_, rfl⟩⟩
            rw [hnx] at at1
            cases e1 : C[i + 1]? with
            | none => exact List.getElem?_eq_none_iff.mp e1
            | some y => rw [e1] at at1; exact absurd at1 (by simp)
          · rw [hnx] at at1
            have e1 : C[i + 1]? = some y := by
              cases e1 : C[i + 1]? with
              | none => rw [e1] at at1; exact absurd at1 (by simp)
              | some y' =>
                rw [e1] at at1
                have : some y = some y' := at1
                rw [this]
            obtain ⟨Y1, Y2, Y3⟩ := CX y (List.mem_of_getElem? e1)
            have m62 : ∀ j p, PL[j]? = some p → f7 62 j = nI p := fun j p hj => by rw [t1 62 (by decide)]; exact k62 j p hj
            refine p_chooses Y1 (by omega) (by omega) Y3 t2 m62 (fun f8 u1 u2 => ?_)
            refine ih4 _ iC ⟨f8, psF_tr s6 (psF_tr (psf5 63 (Or.inl rfl) t1) (psf5 64 (Or.inr rfl) u1)), fun j p hj => by rw [u1 62 (by decide)]; exact m62 j p hj, kf2, Or.inl ⟨y, e1, fun p i hp => by rw [u1 63 (by decide)]; exact t2 p i hp, u2, rfl⟩⟩
        · have hf : fpN sp mk j [] = some (x.map (fun i => PL.getD i 0)) := by
            rw [fpE, find_at (fun i' d h1 h2 => kf i' d h1 h2) hx eg]; rfl
          have e := hnoL j _ c1 (fun c' a b => hno c' a b) hf
          rw [e, Ll] at h
          exact h f6 s6 k64
      · show r_passes_74 Q _ _ (nI n) (nI j) (nI 0) v f6 g
        unfold r_passes_74
        refine ⟨fun _ => ?_, fun w => absurd rfl w⟩
        rintro _ rfl
        rw [nI_add]
        refine ih2 _ ⟨j + 1, f6, by omega, by omega, s6, k62, fun c' a b => ?_, rfl⟩ ?_
        · by_cases cc : c' = j
          · rw [cc, fpE]
            have : C.find? G = none := List.find?_eq_none.mpr (fun d hd => by
              obtain ⟨i', hi'⟩ := List.mem_iff_getElem?.mp hd
              rw [kf i' d (by have := get_lt hi'; omega) hi']; decide)
            rw [this]; rfl
          · exact hno c' a (by omega)
        · show 64 - (nI (j + 1)).toNatClampNeg < 64 - (nI j).toNatClampNeg
          rw [nI_clamp (by omega), nI_clamp (by omega)]
          omega
    · have jin : vp_in (nI j) 20 := pk_in j 20 (by omega)
      refine ⟨jin, ?_⟩
      intro f5 e5
      rintro _ rfl
      rw [nI_clamp (show j < 2 ^ 31 by omega)] at e5
      rw [nI_add]
      refine ih3 _ z3 ⟨f5, fun n hn => by rw [e5, mU_n (fun e => hn (by rw [e]; decide))]; exact s4 n hn, fun j p hj => by rw [e5, mU_n (by decide)]; exact j62 j p hj, fun p hp => ?_, rfl⟩
      rw [e5, mU_s]
      show (if p = j then nI j else f4 63 p) = _
      by_cases cp : p = j
      · rw [if_pos cp, cp]
      · rw [if_neg cp]; exact j63 p (by omega)
  · rw [nI_bit (by omega) (by omega)]
    refine w_N1 (fun e => ?_) (fun e => ?_)
    · unfold r_passes_29
      rintro _ rfl
      rw [nI_add]
      rw [e, if_neg (by decide), List.append_nil] at ps
      exact ih _ z ⟨f2, s2, by rw [ps]; exact h62, by rw [ps]⟩
    · rw [if_pos e] at ps
      refine ⟨pk_in (plc mk i 0).length 20 (by omega), ?_⟩
      intro f3 e3
      rintro _ rfl
      unfold r_passes_29
      rintro _ rfl
      rw [nI_clamp (show (plc mk i 0).length < 2 ^ 31 by omega)] at e3
      rw [nI_add, nI_add]
      refine ih _ z ⟨f3, fun n hn => by rw [e3, mU_n (fun e => hn (by rw [e]; decide))]; exact s2 n hn, fun j p hj => ?_, by rw [ps, List.length_append]; rfl⟩
      rw [e3, mU_s]
      show (if j = (plc mk i 0).length then nI i else f2 62 j) = _
      rw [ps] at hj
      rcases app1_get.mp hj with hj | ⟨i1, i2⟩
      · rw [if_neg (by have := get_lt hj; omega)]; exact h62 j p hj
      · rw [if_pos i1, i2]
end PC
