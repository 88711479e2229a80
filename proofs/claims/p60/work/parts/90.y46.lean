/-! the class: files are counted -/
theorem seenF_app : ∀ (l : List Nat) (f : Nat → Bool) (m : List Nat), seenF f (l ++ m) = ((seenF (seenF f l).1 m).1, (seenF f l).2 + (seenF (seenF f l).1 m).2)
  | [], f, m => by
    show seenF f m = ((seenF f m).1, 0 + (seenF f m).2)
    rw [Nat.zero_add]
  | n :: l, f, m => by
    rw [List.cons_append, seenF, seenF]
    by_cases c : f n = true
    · rw [if_pos c, if_pos c]; exact seenF_app l f m
    · rw [if_neg c, if_neg c, seenF_app l (upR f n true) m]
      refine Prod.ext rfl ?_
      show (seenF (upR f n true) l).2 + (seenF (seenF (upR f n true) l).1 m).2 + 1 = (seenF (upR f n true) l).2 + 1 + (seenF (seenF (upR f n true) l).1 m).2
      omega
def ovI : Option Vw → List Nat
  | none => []
  | some v => v.1
/-- files of deletions of a view -/
def deN (sg : Nat → List Dc) (v : Option Vw) (last : Option Vw) : Nat := match v with
  | none => 0
  | some v => sumL (fun n => if deB sg v.2 last n = true then 1 else 0) v.1
def isC1 : Option Vw → Nat
  | none => 0
  | some _ => 1
/-- how many files there are -/
def fiN (sg : Nat → List Dc) (ix : Vw) (mg : Option (Vw × Nat)) (cm pr : Option Vw) (sn : List (Nat × Vw)) : Nat := (seenF (fun _ => false) (((ix.1 ++ sn.flatMap (fun s => s.2.1)) ++ ovI cm) ++ ovI pr)).2 + (if mgC mg = 0 then 0 else 1) + (isC1 cm + deN sg cm none) + (isC1 pr + deN sg pr cm)
theorem sumL_1 {f : Nat → Bool} : ∀ l : List Nat, sumL (fun n => if f n = true then 1 else 0) l ≤ l.length
  | [] => Nat.le_refl _
  | n :: l => by
    have := sumL_1 (f := f) l
    rw [sumL, List.length_cons]
    split <;> omega
theorem seenF_le : ∀ (l : List Nat) (f : Nat → Bool), (seenF f l).2 ≤ l.length
  | [], f => Nat.le_refl _
  | n :: l, f => by
    rw [seenF, List.length_cons]
    split
    · have := seenF_le l f; omega
    · have := seenF_le l (upR f n true)
      show (seenF (upR f n true) l).2 + 1 ≤ _
      omega
section FC
variable {S T : cS} {ρ ρ' : Nat → Nat} {dp x made : Nat} {so : Nat → Nat} {sd : Nat → List Nat} {sg : Nat → List Dc} {B : List Dc} {ix : Vw} {mg : Option (Vw × Nat)} {cm pr : Option Vw} {sn : List (Nat × Vw)} {op fi w : Nat} {cc : Option Nat} {off : Bool}
/-- the row of segments that were seen -/
def rwS (S T : cS) (b M : Nat) (f : Nat → Bool) : Prop := cSub S T (fun _ => False) ∧ b ∉ cL S ∧ cA T b 16 ∧ cn T b = M ∧ ∀ j, j < M → cI T b j = bI (f j)
theorem rw_new {Q : Int32 → cS → Prop} {b τl τh V : Nat} {f : Nat → Bool} {ids : List Nat} {lv : Nat → Nat → Bool} (hr : rwS S T b made f) (g : gVw S ρ dp so sd sg τl τh V ids lv) (hM : made ≤ 1000) (hid : ∀ n, n ∈ ids → n < made) (h : ∀ U, rwS S U b made (seenF f ids).1 → Q (nI (seenF f ids).2) U) : k_X10_newFiles Q dp V b T := by
  obtain ⟨r1, r2, r3, r4, r5⟩ := hr
  obtain ⟨hl, m, hs, g1, -⟩ := g
  exact q_newFiles (vwT_sub0 r1 g1) r3 r4 hM hid r5 (fun U s hU => h U ⟨sub_tr r1 s (fun a ha z => r2 (z ▸ ha)), r2, sub_A1 s r3, (sub_cn s r3).trans r4, hU⟩)
theorem rw_del {Q : Int32 → cS → Prop} {b τl τh V : Nat} {f : Nat → Bool} {ids : List Nat} {lv : Nat → Nat → Bool} {o : Option Nat} {last : Option Vw} (hr : rwS S T b made f) (g : gVw S ρ dp so sd sg τl τh V ids lv) (go : gOv S ρ dp so sd sg o last) (h : Q (nI (sumL (fun n => if deB sg lv last n = true then 1 else 0) ids)) T) : k_X10_deletionFiles Q dp V o T := by
  obtain ⟨hl, m, hs, g1, -⟩ := g
  refine q_deletions (vwT_sub0 hr.1 g1) ?_ h
  have := ov_vwO go
  cases o with
  | none => cases last with
    | none => trivial
    | some v => exact absurd this id
  | some V => cases last with
    | none => exact absurd this id
    | some v =>
      obtain ⟨a, b, c, d⟩ := this
      exact ⟨a, b, c, vwT_sub0 hr.1 d⟩
theorem g_files102 {Q : Int32 → cS → Prop} {mc ms b cd dd n : Nat} {f : Nat → Bool} (g : gIx S ρ dp x so sd sg made B ix mg cm pr sn op fi w cc off) (hM : ixM made ix mg cm pr sn) (hmade : made ≤ 1000) (hr : rwS S T b made f) (hm : cd ≤ mc) (hs : dd ≤ ms) (h : ∀ U f', rwS S U b made f' → Q (nI (n + (seenF f (ovI pr)).2 + (isC1 pr + deN sg pr cm))) U) : k_X11_fileCount_102 Q dp mc ms x b (nI n) cd dd T := by
  obtain ⟨⟨hx, hρ, hdp⟩, gs, gb, ⟨V, e355, gv⟩, ⟨go, e357⟩, gc, gp, gl, ii⟩ := g
  have xT : ∀ {U : cS} {f' : Nat → Bool}, rwS S U b made f' → cA U x 11 ∧ (∀ q, cr U q x = cr S q x) := fun hU => ⟨sub_A1 hU.1 hx, fun q => sub_cr hU.1 hx (fun z => z)⟩
  obtain ⟨x1, x2⟩ := xT hr
  unfold k_X11_fileCount_102
  cases pr with
  | none =>
    have e := ov_none gp
    refine ⟨x1, fun _ => ⟨⟨hm, hs⟩, ?_⟩, fun b' hb => absurd ((x2 359).symm.trans hb) (by rw [e]; simp)⟩
    have := h T f hr
    exact this
  | some v =>
    obtain ⟨P, e, gP⟩ := ov_some gp
    have eT : cr T 359 x = some P := (x2 359).trans e
    refine ⟨x1, fun c => absurd (eT.symm.trans c) (by simp), fun b' hb => ⟨x1, fun c => absurd (eT.symm.trans c) (by simp), fun b2 hb2 => ?_⟩⟩
    obtain rfl : P = b2 := Option.some.inj (eT.symm.trans hb2)
    refine ⟨sub_A1 hr.1 (g_vA gP).1, ⟨hm, hs⟩, rw_new hr gP hmade (hM.2.2.2.1 v rfl) (fun U hU => ?_)⟩
    obtain ⟨u1, u2⟩ := xT hU
    have eU : cr U 359 x = some P := (u2 359).trans e
    have fin : ∀ (U : cS) (x2_18 : Int32), rwS S U b made (seenF f v.1).1 → x2_18 = nI n + (nI 1 + nI (seenF f v.1).2 + nI (sumL (fun n => if deB sg v.2 cm n = true then 1 else 0) v.1)) → (cd ≤ mc ∧ dd ≤ ms) ∧ Q x2_18 U := by
      rintro U _ hU rfl
      refine ⟨⟨hm, hs⟩, ?_⟩
      rw [nI_add, nI_add, nI_add]
      have := h U _ hU
      rw [show n + (1 + (seenF f v.1).2 + sumL (fun n => if deB sg v.2 cm n = true then 1 else 0) v.1) = n + (seenF f (ovI (some v))).2 + (isC1 (some v) + deN sg (some v) cm) by
        show _ = n + (seenF f v.1).2 + (1 + sumL (fun n => if deB sg v.2 cm n = true then 1 else 0) v.1)
        omega]
      exact this
    refine ⟨u1, fun c => absurd (eU.symm.trans c) (by simp), fun b3 hb3 => ⟨u1, ?_⟩⟩
    obtain rfl : P = b3 := Option.some.inj (eU.symm.trans hb3)
    refine ⟨fun c => ⟨sub_A1 hU.1 (g_vA gP).1, ⟨hm, hs⟩, ?_⟩, fun b4 hb4 => ⟨sub_A1 hU.1 (g_vA gP).1, ⟨hm, hs⟩, ?_⟩⟩
    · have gc' := gc
      rw [← u2 358, c] at gc'
      exact rw_del hU gP gc' (fun y hy => fin U y hU hy)
    · have gc' := gc
      rw [← u2 358, hb4] at gc'
      exact rw_del hU gP gc' (fun y hy => fin U y hU hy)
theorem g_files38 {Q : Int32 → cS → Prop} {mc ms b cd dd n : Nat} {f : Nat → Bool} (g : gIx S ρ dp x so sd sg made B ix mg cm pr sn op fi w cc off) (hM : ixM made ix mg cm pr sn) (hmade : made ≤ 1000) (hr : rwS S T b made f) (hm : cd ≤ mc) (hs : dd ≤ ms) (h : ∀ U f', rwS S U b made f' → Q (nI (n + (seenF f ((sn.flatMap (fun s => s.2.1) ++ ovI cm) ++ ovI pr)).2 + (isC1 cm + deN sg cm none) + (isC1 pr + deN sg pr cm))) U) : k_X11_fileCount_38L Q dp mc ms x b (nI n) (nI 0) cd dd T := by
  obtain ⟨⟨hx, hρ, hdp⟩, gs, gb, ⟨V, e355, gv⟩, ⟨go, e357⟩, gc, gp, ⟨l, ⟨sl, sm, e360, gl1, gl2, gl3⟩, gl4⟩, ii⟩ := id g
  have xT : ∀ {U : cS} {f' : Nat → Bool}, rwS S U b made f' → cA U x 11 ∧ (∀ q, cr U q x = cr S q x) := fun hU => ⟨sub_A1 hU.1 hx, fun q => sub_cr hU.1 hx (fun z => z)⟩
  have hll := parL_len gl4
  have hl8 : l.length < 8000 := by have := gl1.2.2.1; have := gl1.2.2.2.1; omega
  unfold k_X11_fileCount_38L
  refine lfp_cnt l.length (fun k y => ∃ S', rwS S S' b made (seenF f ((sn.take k).flatMap (fun s => s.2.1))).1 ∧ y = (x, b, nI (n + (seenF f ((sn.take k).flatMap (fun s => s.2.1))).2), nI k, cd, dd, S')) ?_ ⟨T, hr, rfl⟩
  rintro P k _ hk ⟨S', hw, rfl⟩ ih
  show k_X11_fileCount_38 Q dp mc ms _ x b (nI (n + (seenF f ((sn.take k).flatMap (fun s => s.2.1))).2)) (nI k) cd dd S'
  obtain ⟨x1, x2⟩ := xT hw
  have lS := lsT_sub hw.1 gl1 (fun _ _ z => z)
  unfold k_X11_fileCount_38
  refine ⟨x1, sl, (x2 360).trans e360, lS.1, ⟨hm, hs⟩, q_lsize lS (pk_le l.length k (fun z => ?_) (fun z => ?_))⟩
  · obtain rfl : k = l.length := by omega
    rw [List.take_of_length_le (by omega)] at hw ⊢
    clear ih
    -- the last commit
    have fin : ∀ (U : cS) (f' : Nat → Bool) (y : Nat), rwS S U b made f' → y + (seenF f' (ovI pr)).2 = n + (seenF f ((sn.flatMap (fun s => s.2.1) ++ ovI cm) ++ ovI pr)).2 + (isC1 cm + deN sg cm none) → k_X11_fileCount_102 Q dp mc ms x b (nI y) cd dd U := fun U f' y hU hy => g_files102 g hM hmade hU hm hs (fun W f2 hW => by rw [hy]; exact h W f2 hW)
    have sp := seenF_app (sn.flatMap (fun s => s.2.1) ++ ovI cm) f (ovI pr)
    have sp2 := seenF_app (sn.flatMap (fun s => s.2.1)) f (ovI cm)
    cases cm with
    | none =>
      have e := ov_none gc
      refine ⟨x1, fun _ => fin S' _ _ hw ?_, fun b' hb => absurd ((x2 358).symm.trans hb) (by rw [e]; simp)⟩
      show n + (seenF f (sn.flatMap (fun s => s.2.1))).2 + (seenF (seenF f (sn.flatMap (fun s => s.2.1))).1 (ovI pr)).2 = n + (seenF f ((sn.flatMap (fun s => s.2.1) ++ []) ++ ovI pr)).2 + (0 + 0)
      rw [List.append_nil, seenF_app (sn.flatMap (fun s => s.2.1)) f (ovI pr)]
      show _ = n + (_ + _) + 0
      omega
    | some v =>
      obtain ⟨C, e, gC⟩ := ov_some gc
      have eT : cr S' 358 x = some C := (x2 358).trans e
      refine ⟨x1, fun c => absurd (eT.symm.trans c) (by simp), fun b' hb => ⟨x1, fun c => absurd (eT.symm.trans c) (by simp), fun b2 hb2 => ?_⟩⟩
      obtain rfl : C = b2 := Option.some.inj (eT.symm.trans hb2)
      refine ⟨sub_A1 hw.1 (g_vA gC).1, ⟨hm, hs⟩, rw_new hw gC hmade (hM.2.2.1 v rfl) (fun U hU => ?_)⟩
      obtain ⟨u1, u2⟩ := xT hU
      have eU : cr U 358 x = some C := (u2 358).trans e
      refine ⟨u1, fun c => absurd (eU.symm.trans c) (by simp), fun b3 hb3 => ?_⟩
      obtain rfl : C = b3 := Option.some.inj (eU.symm.trans hb3)
      refine ⟨sub_A1 hU.1 (g_vA gC).1, ⟨hm, hs⟩, rw_del (last := none) (o := none) hU gC trivial ?_⟩
      rintro _ rfl
      rw [nI_add, nI_add, nI_add]
      refine fin U _ _ hU ?_
      rw [sp, sp2]
      show n + (seenF f (sn.flatMap (fun s => s.2.1))).2 + (1 + (seenF (seenF f (sn.flatMap (fun s => s.2.1))).1 v.1).2 + sumL (fun n => if deB sg v.2 none n = true then 1 else 0) v.1) + (seenF (seenF (seenF f (sn.flatMap (fun s => s.2.1))).1 v.1).1 (ovI pr)).2 = n + ((seenF f (sn.flatMap (fun s => s.2.1))).2 + (seenF (seenF f (sn.flatMap (fun s => s.2.1))).1 v.1).2 + (seenF (seenF (seenF f (sn.flatMap (fun s => s.2.1))).1 v.1).1 (ovI pr)).2) + (1 + sumL (fun n => if deB sg v.2 none n = true then 1 else 0) v.1)
      omega
  · obtain ⟨W, hW⟩ := get_ex z
    obtain ⟨s, hs'⟩ := get_ex (l := sn) (k := k) (by omega)
    obtain ⟨gW, -⟩ := parL_get gl4 hW hs'
    have tk : (sn.take (k + 1)).flatMap (fun s => s.2.1) = (sn.take k).flatMap (fun s => s.2.1) ++ s.2.1 := by
      rw [List.take_succ, hs', List.flatMap_append]
      show _ ++ (s.2.1 ++ []) = _
      rw [List.append_nil]
    refine ⟨x1, sl, (x2 360).trans e360, lS.1, ⟨hm, hs⟩, q_lget lS hW ⟨sub_A1 hw.1 (g_vA gW).1, sub_A1 hw.1 (g_vA gW).1, ⟨hm, hs⟩, rw_new hw gW hmade (hM.2.2.2.2 s (List.mem_of_getElem? hs')) (fun U hU => ?_)⟩⟩
    rintro _ rfl _ rfl
    rw [nI_add, nI_add]
    refine ih _ z ⟨U, ?_, ?_⟩
    · rw [tk, seenF_app]; exact hU
    · rw [tk, seenF_app]
      show (x, b, nI _, nI (k + 1), cd, dd, U) = (x, b, nI _, nI (k + 1), cd, dd, U)
      rw [Nat.add_assoc]
theorem g_fileCount {Q : Int32 → cS → Prop} {mc ms : Nat} (g : gIx S ρ dp x so sd sg made B ix mg cm pr sn op fi w cc off) (hM : ixM made ix mg cm pr sn) (hmade : made ≤ 1000) (hmg : mgC mg < 1000) (hm : 1 ≤ mc) (hs : made ≤ ms) (h : ∀ T ρ', fr S T ρ ρ' [] → Q (nI (fiN sg ix mg cm pr sn)) T) : k_X11_fileCount Q dp mc ms x S := by
  obtain ⟨⟨hx, hρ, hdp⟩, gs, gb, ⟨V, e355, gv⟩, ⟨go, e357⟩, gc, gp, gl, i361, i366, i367, i368, i369, i370⟩ := id g
  unfold k_X11_fileCount
  refine ⟨hx, made, i366, by omega, by omega, by omega, fun q hq S3 e3 => ?_⟩
  have s3 : cSub S S3 (fun _ => False) := e3 ▸ sub_A hq
  have hr : rwS S S3 q made (fun _ => false) := ⟨s3, hq, ⟨hm_Ao e3, hk_Ao e3⟩, hn_Ao e3, fun j _ => by rw [e3]; show upR (cI S) q (fun _ => 0) q j = _; rw [upR_s]; rfl⟩
  have xT : ∀ {U : cS} {f' : Nat → Bool}, rwS S U q made f' → cA U x 11 ∧ (∀ q, cr U q x = cr S q x) ∧ (∀ q, ci U q x = ci S q x) := fun hU => ⟨sub_A1 hU.1 hx, fun q => sub_cr hU.1 hx (fun z => z), fun q => sub_ci hU.1 hx (fun z => z)⟩
  obtain ⟨x1, x2, x3⟩ := xT hr
  refine ⟨x1, V, (x2 _).trans e355, sub_A1 s3 (g_vA gv).1, ⟨by omega, by omega⟩, rw_new hr gv hmade hM.1 (fun U hU => ?_)⟩
  obtain ⟨u1, u2, u3⟩ := xT hU
  have fin : ∀ (t : Nat), t = (if mgC mg = 0 then 0 else 1) → k_X11_fileCount_34 Q dp mc ms x q (nI t) (nI (seenF (fun _ => false) ix.1).2) (0 + 1) (0 + made) U := by
    intro t ht
    unfold k_X11_fileCount_34
    rintro _ rfl
    rw [nI_add]
    refine g_files38 g hM hmade hU (by omega) (by omega) (fun W f' hW => ?_)
    have hval : (seenF (fun _ => false) ix.1).2 + t + (seenF (seenF (fun _ => false) ix.1).1 ((sn.flatMap (fun s => s.2.1) ++ ovI cm) ++ ovI pr)).2 + (isC1 cm + deN sg cm none) + (isC1 pr + deN sg pr cm) = fiN sg ix mg cm pr sn := by
      unfold fiN
      rw [show ((ix.1 ++ sn.flatMap (fun s => s.2.1)) ++ ovI cm) ++ ovI pr = ix.1 ++ ((sn.flatMap (fun s => s.2.1) ++ ovI cm) ++ ovI pr) by simp only [List.append_assoc], seenF_app ix.1, ht]
      show _ = ((seenF (fun _ => false) ix.1).2 + _) + _ + _ + _
      omega
    rw [hval]
    exact h W (rtg S id ρ 99) ⟨sub_wk hW.1 (fun _ _ z => z.elim), fun a ha _ => rtg_o ha⟩
  have e357U : ci U 357 x = nI (mgC mg) := (u3 _).trans e357
  refine ⟨u1, fun e => ?_, fun b hb => ⟨u1, ?_⟩⟩
  · have hmn : mg = none := by
      rw [u2] at e
      rw [e] at go
      cases mg with
      | none => rfl
      | some m => exact absurd go id
    unfold k_X11_fileCount_33
    exact fin 0 (by rw [hmn]; rfl)
  · rw [e357U]
    refine pk_le (mgC mg) 0 (fun z => ?_) (fun z => ?_)
    · unfold k_X11_fileCount_33
      exact fin 0 (by rw [if_pos (by omega)])
    · exact fin 1 (by rw [if_neg (by omega)])
theorem g_files {Q : Int32 → cS → Prop} {mc ms : Nat} (g : gIx S ρ dp x so sd sg made B ix mg cm pr sn op fi w cc false) (hM : ixM made ix mg cm pr sn) (hmade : made ≤ 1000) (hmg : mgC mg < 1000) (hm : 1 ≤ mc) (hs : made ≤ ms) (h : ∀ T ρ', fr S T ρ ρ' [] → Q (nI (fiN sg ix mg cm pr sn)) T) : k_X11_files Q dp mc ms x S := by
  obtain ⟨⟨hx, hρ, hdp⟩, gs, gb, ⟨V, e355, gv⟩, ⟨go, e357⟩, gc, gp, gl, i361, i366, i367, i368, i369, i370⟩ := id g
  unfold k_X11_files
  refine ⟨hx, ⟨by omega, by omega⟩, q_checkUp hx i370 ⟨hx, mc, ms, by omega, by omega, g_fileCount g hM hmade hmg hm hs (fun T ρ' f => ⟨⟨by omega, by omega⟩, h T ρ' f⟩)⟩⟩
/-- nothing has changed but garbage -/
theorem gIx_0 (f : fr S T ρ ρ' []) (hM : ixM made ix mg cm pr sn) (g : gIx S ρ dp x so sd sg made B ix mg cm pr sn op fi w cc off) : gIx T ρ' dp x so sd sg made B ix mg cm pr sn op fi w cc off ∧ evI S T ρ ρ' x := by
  have hx := g.1.1
  have hρ := g.1.2.1
  have r : ∀ q, cr T q x = cr S q x := fun q => fr_cr f hx (by simp)
  have hx' : ρ' x = 1 := fr_tg f hx.1 hρ (by simp)
  exact ⟨gIx_fk (fr_fk f (by decide)) (by decide) hM hx' (fun q _ => r q) (fun q _ => fr_ci f hx (by simp)) g, fr_up f rfl, fun q _ => r q, hx'⟩
end FC
