/-! the class: matches, facets, sorting, ranks and passages by scan -/
theorem fndJ_mem {f : Nat → Bool} {n : Nat} {y : Nat × Nat} : ∀ {k : Nat}, y ∈ fndJ f n k → y.1 = n ∧ y.2 < k ∧ f y.2 = true
  | 0, h => absurd h List.not_mem_nil
  | k + 1, h => by
    rw [fndJ] at h
    rcases List.mem_append.mp h with h | h
    · have := fndJ_mem h
      exact ⟨this.1, by omega, this.2.2⟩
    · by_cases c : f k = true
      · rw [if_pos c] at h
        rw [List.mem_singleton.mp h]; exact ⟨rfl, Nat.lt_succ_self k, c⟩
      · rw [if_neg c] at h; exact absurd h List.not_mem_nil
theorem mtL_mem {sg : Nat → List Dc} {f : Nat → Nat → Bool} {ids : List Nat} {y : Nat × Nat} (h : y ∈ mtL sg f ids) : y.1 ∈ ids ∧ y.2 < (sg y.1).length ∧ f y.1 y.2 = true := by
  unfold mtL at h
  obtain ⟨n, hn, hy⟩ := List.mem_flatMap.mp h
  obtain ⟨e1, e2, e3⟩ := fndJ_mem hy
  subst e1
  exact ⟨hn, e2, e3⟩
theorem sumL_takeG {α : Type} {f : α → Nat} {l : List α} {k : Nat} {n : α} (h : l[k]? = some n) : sumL f (l.take (k + 1)) = sumL f (l.take k) + f n := by
  rw [List.take_add_one, h, sumL_app]
  rfl
/-- a found document is of a category -/
def catB (sg : Nat → List Dc) (cat : Nat) (y : Nat × Nat) : Bool := match (sg y.1)[y.2]? with
  | some d => dC d == cat
  | none => false
/-- what matches a query -/
noncomputable def mtQ (sg : Nat → List Dc) (s : Vw) (e : Nat × (Nat → Nd)) : List (Nat × Nat) := mtL sg (fun n j => s.2 n j && mtB e (sg n) j) s.1
/-- a document goes ahead of another one -/
def gaB (dn : Bool) (a b j i : Nat) : Bool := (if dn = true then decide (b < a) else decide (a < b)) || (decide (a = b) && decide (j < i))
def splN (N : Nat → Nat) (dn : Bool) (n i : Nat) : Nat := cntB (fun j => gaB dn (N j) (N i) j i) n
/-- the passages of a document, by what is marked alone -/
noncomputable def psM (e : Nat × (Nat → Nd)) (d : Dc) (fl : Nat) : List Nat := psD e.2 e.1 0 0 (fun _ => 0) d fl
theorem psD_M {nd : Nat → Nd} {m w0 w1 fl : Nat} {rr : Nat → Nat} {d : Dc} : psD nd m w0 w1 rr d fl = psM (m, nd) d fl := by
  have h : (evS nd (gvF nd m w0 w1 rr (fun i => mkO d (lfD nd m i))) m 0).isSome = (evS nd (gvF nd m 0 0 (fun _ => 0) (fun i => mkO d (lfD nd m i))) m 0).isSome := evS_some (fun i => by
    unfold gvF
    split <;> rfl) _ _
  unfold psM psD
  rw [h]
theorem psL_len {sp : Nat → Option Nat} {mk : Nat} : (psL sp mk).length ≤ 4 := by
  unfold psL
  split
  · exact Nat.zero_le _
  · rcases psG_len (sp := sp) (mk := mk) (r := 4) (c := 1) with hh | hh
    · omega
    · omega
theorem psM_len {e : Nat × (Nat → Nd)} {d : Dc} {fl : Nat} : (psM e d fl).length ≤ 4 := by
  unfold psM psD
  split
  · exact psL_len
  · exact Nat.zero_le _
/-- the passage at a place -/
def paI (l : List Nat) (y : Int32) : Int32 := if y < 0 then -1 else match l[y.toNatClampNeg]? with
  | some v => nI v
  | none => -1
section MQ
variable {S T U : cS} {ρ ρ' : Nat → Nat} {M : List Nat} {dp x made w0 w1 : Nat} {so : Nat → Nat} {sd : Nat → List Nat} {sg : Nat → List Dc} {B : List Dc} {ix : Vw} {mg : Option (Vw × Nat)} {cm pr : Option Vw} {sn : List (Nat × Vw)} {op fi w : Nat} {cc : Option Nat} {off : Bool} {qs : List (Nat × (Nat → Nd))} {H : List (Nat × Nat)} {sk tk u : Nat} {CL : List (Nat × Nat × Nat)} {mb : Nat → Nat → Nat → Bool}
theorem gRd_k (h : fk S T ρ ρ' M) (hM : [19, 20, 26].all (fun τ => !M.contains τ) = true) (hρ : ∀ a, a ∈ cL S → ρ' a = ρ a) (hx : cr T 364 x = cr S 364 x) (g : gRd S ρ x w0 w1) : gRd T ρ' x w0 w1 := by
  have nM := nM_of hM
  obtain ⟨rd, wr, mo, fo, ro, pl, ra, gi, mk, fs, rw, e, g, rr, h1, h2⟩ := g
  have r2 := g.2.2.2.2.2.2.2.1
  refine ⟨rd, wr, mo, fo, ro, pl, ra, gi, mk, fs, rw, hx.trans e, rdr_fr h.1 (nM 19 (by decide)) (nM 20 (by decide)) (fun a ha _ => hρ a ha) g, rr, h1, fun i hi => ?_⟩
  rw [sub_cI h.1.1 r2.2.1 (by rw [r2.2.2.2]; exact nM 26 (by decide))]; exact h2 i hi
/-- what is found in a view -/
theorem g_matched {Q : Nat → cS → Prop} {V q mc ms rd : Nat} {s : Nat × Vw} {e : Nat × (Nat → Nd)} (g : gIx S ρ dp x so sd sg made B ix mg cm pr sn op fi w cc off) (hM : ixM made ix mg cm pr sn) (gR : gRd S ρ x w0 w1) (gF : gFn S ρ x H sk tk CL u mb sg) (hok : fiOk sg made sn qs w0 w1) (he : e ∈ qs) (hs : s ∈ sn) (gV : gVw S ρ dp so sd sg 11 11 V s.2.1 s.2.2) (gq : gQy S ρ dp 17 17 q e.1 e.2) (hrd : cr S 364 x = some rd) (hmc : 200 ≤ mc) (hms : 4000 ≤ ms) (h : ∀ T ρ' a ws wm, fk S T ρ ρ' [36, 80, 18, 22, 23, 24, 25, 27] → (∀ a, a ∈ cL S → ρ' a = ρ a) → gRd T ρ' x w0 w1 → gFn T ρ' x H sk tk CL u mb sg → lsT T dp a 0 ws wm → parL (fun D d => gFz T ρ' D d ∧ okD d) ws ((mtQ sg s.2 e).map (fun y => (sg y.1).getD y.2 ((0, 0, 0), [], []))) → Q a T) : k_X7_matched Q dp mc ms rd V q S := by
  obtain ⟨o1, o2, o3, o4, o5, o6⟩ := hok
  obtain ⟨q1, q2, q3, q4⟩ := o4 e he
  obtain ⟨rd', wr, mo', fo, ro, pl, ra, gi, mk, fs, rw, r1, r2, rr, r3, r4⟩ := id gR
  obtain rfl := Option.some.inj (hrd.symm.trans r1)
  have hsM := hM.2.2.2.2 s hs
  have st' : rSt S ρ dp so sd sg made V s.2.1 s.2.2 rd w0 w1 wr mo' fo ro pl ra gi mk fs rw q e.1 e.2 := ⟨g.2.1, hsM, gV, r2, gq⟩
  refine q_matched (rr := rr) st' q1 q2 q3 q4 ⟨o5, o6⟩ r3 r4 (fun n hn => o1 n (hsM n hn)) (o3 s hs) g.1.2.2 hmc hms (fun T ρ' a ws wm fT oT lT pT => ?_)
  have nx : ρ x ∉ [36, 80, 18, 22, 23, 24, 25, 27] := by rw [g.1.2.1]; decide
  have xr : ∀ z, cr T z x = cr S z x := fun z => fr_cr fT.1 g.1.1 nx
  refine h T ρ' a ws wm fT oT (gRd_k fT (by decide) oT (xr _) gR) (gFn_f fT.1 (by decide) (xr _) (xr _) gF) lT ?_
  have ef : (fun n j => s.2.2 n j && (vlN e.2 e.1 w0 w1 rr (sg n) j).isSome) = fun n j => s.2.2 n j && mtB e (sg n) j := by
    funext n j
    rw [vl_some]
  rw [ef] at pT
  have gsT := gSegs_fr fT (by decide) g.2.1
  have pl' := parL_len pT
  refine parL_of (by rw [List.length_map]; exact pl') (fun i D d hD hd => ?_)
  rw [List.getElem?_map] at hd
  obtain ⟨y, hy⟩ := get_ex (l := mtQ sg s.2 e) (k := i) (by have := get_lt hD; unfold mtQ; omega)
  rw [hy] at hd
  have hd' : (sg y.1).getD y.2 ((0, 0, 0), [], []) = d := Option.some.inj hd
  have hsd : (sd y.1)[y.2]? = some D := parL_get (R := fun D (x : Nat × Nat) => (sd x.1)[x.2]? = some D) pT hD hy
  obtain ⟨m1, m2, m3⟩ := mtL_mem (List.mem_of_getElem? hy)
  have gS := gsT y.1 (hsM y.1 m1)
  have hdd : (sg y.1)[y.2]? = some d := by
    rw [← hd', List.getD_eq_getElem?_getD, List.getElem?_eq_getElem m2]; rfl
  exact ⟨gS.2.2.2.1 _ _ _ hsd hdd, gS.2.2.2.2.1 d (List.mem_of_getElem? hdd)⟩
theorem g_matches {Q : Int32 → cS → Prop} {y : Int32} {k mc ms : Nat} {e : Nat × (Nat → Nd)} (g : gIx S ρ dp x so sd sg made B ix mg cm pr sn op fi w cc off) (hM : ixM made ix mg cm pr sn) (gl : gQl S ρ dp x qs) (gR : gRd S ρ x w0 w1) (gF : gFn S ρ x H sk tk CL u mb sg) (hok : fiOk sg made sn qs w0 w1) (hex : ∃ s, s ∈ sn ∧ nI s.1 = y) (hk : qs[k]? = some e) (hmc : 200 ≤ mc) (hms : 4000 ≤ ms) (h : ∀ T ρ' s, s ∈ sn → nI s.1 = y → fk S T ρ ρ' [36, 80, 18, 22, 23, 24, 25, 27] → (∀ a, a ∈ cL S → ρ' a = ρ a) → gRd T ρ' x w0 w1 → gFn T ρ' x H sk tk CL u mb sg → Q (nI (mtQ sg s.2 e).length) T) : k_X11_matches Q dp mc ms x y (nI k) S := by
  unfold k_X11_matches
  refine ⟨g.1.1, ⟨by omega, by omega⟩, g_snapOf g hex (fun l i V s _ _ _ hs es gV => ⟨g.1.1, ⟨by omega, by omega⟩, g_queryOf g.1.1 gl hk (fun q gq => ?_)⟩)⟩
  obtain ⟨rd, wr, mo', fo, ro, pl, ra, gi, mk, fs, rw, r1, r2, -⟩ := id gR
  refine ⟨g.1.1, rd, r1, r2.1, mc, ms, by omega, by omega, g_matched g hM gR gF hok (List.mem_of_getElem? hk) (List.mem_of_getElem? hs) gV gq r1 hmc hms (fun T ρ' a ws wm fT oT gRT gFT lT pT => ⟨lT.1, ⟨by omega, by omega⟩, q_lsize lT ⟨⟨by omega, by omega⟩, ?_⟩⟩)⟩
  rw [show ws.length = (mtQ sg s.2 e).length by rw [parL_len pT, List.length_map]]
  exact h T ρ' s (List.mem_of_getElem? hs) es fT oT gRT gFT
theorem g_matchesByScan {Q : Int32 → cS → Prop} {y : Int32} {k : Nat} {e : Nat × (Nat → Nd)} (g : gIx S ρ dp x so sd sg made B ix mg cm pr sn op fi w cc off) (hM : ixM made ix mg cm pr sn) (gl : gQl S ρ dp x qs) (gR : gRd S ρ x w0 w1) (gF : gFn S ρ x H sk tk CL u mb sg) (hok : fiOk sg made sn qs w0 w1) (hex : ∃ s, s ∈ sn ∧ nI s.1 = y) (hk : qs[k]? = some e) (h : ∀ T s, s ∈ sn → nI s.1 = y → fk S T ρ ρ [18, 22, 25, 27] → gRd T ρ x w0 w1 → gFn T ρ x H sk tk CL u mb sg → Q (nI (mtQ sg s.2 e).length) T) : k_X11_matchesByScan Q dp x y (nI k) S := by
  obtain ⟨o1, o2, o3, o4, o5, o6⟩ := hok
  obtain ⟨q1, q2, q3, q4⟩ := o4 e (List.mem_of_getElem? hk)
  unfold k_X11_matchesByScan
  refine ⟨g.1.1, g_snapOf g hex (fun l i V s _ _ _ hs es gV => ⟨g.1.1, g_queryOf g.1.1 gl hk (fun q gq => ?_)⟩)⟩
  have hsm := List.mem_of_getElem? hs
  obtain ⟨rd, wr, mo', fo, ro, pl, ra, gi, mk, fs, rw, r1, r2, rr, r3, r4⟩ := id gR
  have hsM := hM.2.2.2.2 s hsm
  have st' : rSt S ρ dp so sd sg made V s.2.1 s.2.2 rd w0 w1 wr mo' fo ro pl ra gi mk fs rw q e.1 e.2 := ⟨g.2.1, hsM, gV, r2, gq⟩
  refine ⟨g.1.1, rd, r1, r2.1, q_scannedCount (rr := rr) st' q1 q2 q3 q4 ⟨o5, o6⟩ r3 r4 (fun n hn => o1 n (hsM n hn)) (fun T fT => ?_)⟩
  have nx : ρ x ∉ [18, 22, 25, 27] := by rw [g.1.2.1]; decide
  have xr : ∀ z, cr T z x = cr S z x := fun z => fr_cr fT.1 g.1.1 nx
  have ef : (fun n j => s.2.2 n j && (vlN e.2 e.1 w0 w1 rr (sg n) j).isSome) = fun n j => s.2.2 n j && mtB e (sg n) j := by
    funext n j
    rw [vl_some]
  rw [ef]
  exact h T s hsm es fT (gRd_k fT (by decide) (fun _ _ => rfl) (xr _) gR) (gFn_f fT.1 (by decide) (xr _) (xr _) gF)
theorem g_facet {Q : Int32 → cS → Prop} {y : Int32} {k cat mc ms : Nat} {e : Nat × (Nat → Nd)} (g : gIx S ρ dp x so sd sg made B ix mg cm pr sn op fi w cc off) (hM : ixM made ix mg cm pr sn) (gl : gQl S ρ dp x qs) (gR : gRd S ρ x w0 w1) (gF : gFn S ρ x H sk tk CL u mb sg) (hok : fiOk sg made sn qs w0 w1) (hex : ∃ s, s ∈ sn ∧ nI s.1 = y) (hk : qs[k]? = some e) (hcat : cat < 10) (hmc : 200 ≤ mc) (hms : 4000 ≤ ms) (h : ∀ T ρ' s, s ∈ sn → nI s.1 = y → fk S T ρ ρ' [36, 80, 18, 22, 23, 24, 25, 27] → (∀ a, a ∈ cL S → ρ' a = ρ a) → gRd T ρ' x w0 w1 → gFn T ρ' x H sk tk CL u mb sg → Q (nI (sumL (fun d => if dC d = cat then 1 else 0) ((mtQ sg s.2 e).map (fun y => (sg y.1).getD y.2 ((0, 0, 0), [], []))))) T) : k_X11_facet Q dp mc ms x y (nI k) (nI cat) S := by
  unfold k_X11_facet
  refine ⟨g.1.1, ⟨by omega, by omega⟩, g_snapOf g hex (fun l i V s _ _ _ hs es gV => ⟨g.1.1, ⟨by omega, by omega⟩, g_queryOf g.1.1 gl hk (fun q gq => w_pos cat (pk_le cat 9 (fun _ => ?_) (fun z => absurd z (by omega))))⟩)⟩
  obtain ⟨rd, wr, mo', fo, ro, pl, ra, gi, mk, fs, rw, r1, r2, -⟩ := id gR
  refine ⟨g.1.1, rd, r1, r2.1, mc, ms, by omega, by omega, g_matched g hM gR gF hok (List.mem_of_getElem? hk) (List.mem_of_getElem? hs) gV gq r1 hmc hms (fun T ρ' a ws wm fT oT gRT gFT lT pT => ?_)⟩
  obtain ⟨L, hL⟩ : ∃ L, L = (mtQ sg s.2 e).map (fun y => (sg y.1).getD y.2 ((0, 0, 0), [], [])) := ⟨_, rfl⟩
  have fin := h T ρ' s (List.mem_of_getElem? hs) es fT oT gRT gFT
  rw [← hL] at pT fin
  have ll := parL_len pT
  have l8 : ws.length < 8000 := by have := lT.2.2.1; have := lT.2.2.2.1; omega
  unfold k_X11_facet_54L
  refine lfp_cnt ws.length (fun i y' => y' = (nI cat, a, nI (sumL (fun d => if dC d = cat then 1 else 0) (L.take i)), nI i, 0 + mc, 0 + ms, T)) ?_ rfl
  rintro P i _ hi rfl ih
  show k_X11_facet_54 Q dp mc ms _ (nI cat) a (nI (sumL (fun d => if dC d = cat then 1 else 0) (L.take i))) (nI i) (0 + mc) (0 + ms) T
  have bd : (0 + mc ≤ mc ∧ 0 + ms ≤ ms) := ⟨by omega, by omega⟩
  unfold k_X11_facet_54
  refine ⟨lT.1, bd, q_lsize lT (pk_le ws.length i (fun z => ⟨bd, ?_⟩) (fun z => ?_))⟩
  · rw [show L.take i = L from List.take_of_length_le (by omega)]; exact fin
  obtain ⟨D, hD⟩ := get_ex z
  obtain ⟨d, hd⟩ := get_ex (l := L) (k := i) (by omega)
  obtain ⟨gD, okd⟩ := parL_get pT hD hd
  have fin84 : ∀ v, v = sumL (fun d => if dC d = cat then 1 else 0) (L.take (i + 1)) → k_X11_facet_84 Q dp mc ms (fun b0 b1 b2 b3 b4 b5 S => P (b0, b1, b2, b3, b4, b5, S)) (nI cat) a (nI v) (nI i) (0 + mc) (0 + ms) T := by
    intro v hv
    unfold k_X11_facet_84
    rintro _ rfl
    rw [nI_add, hv]
    exact ih _ z rfl
  refine ⟨lT.1, bd, q_lget lT hD ⟨gD.1, gD.1, ?_⟩⟩
  rw [gD.2.2.2.1]
  have := okd.2.1
  refine w_ne (dC d) cat (fun c => fin84 _ (by rw [sumL_takeG hd, if_neg c, Nat.add_zero])) (fun c => ?_)
  rintro _ rfl
  rw [nI_add]
  exact fin84 _ (by rw [sumL_takeG hd, if_pos c])
theorem q_sortedPlace {Q : Int32 → cS → Prop} {a wm i : Nat} {ws : List Nat} {N : Nat → Nat} {dn : Bool} (lT : lsT T dp a 0 ws wm) (hN : ∀ k D, ws[k]? = some D → cA T D 0 ∧ ci T 2 D = nI (N k) ∧ N k < 2 ^ 31) (hi : i < ws.length) (h : Q (nI (splN N dn ws.length i)) T) : k_X11_sortedPlace Q dp a (nI i) (bI dn) T := by
  have l8 : ws.length < 8000 := by have := lT.2.2.1; have := lT.2.2.2.1; omega
  obtain ⟨D, hD⟩ := get_ex hi
  obtain ⟨n1, n2, n3⟩ := hN i D hD
  unfold k_X11_sortedPlace
  refine w_pos i ⟨lT.1, q_lsize lT (pk_lt i ws.length (fun _ => ⟨lT.1, q_lget lT hD ⟨n1, n1, ?_⟩⟩) (fun z => absurd z (by omega)))⟩
  rw [n2]
  rintro _ rfl
  obtain ⟨F, hF⟩ : ∃ F : Nat → Bool, F = fun j => gaB dn (N j) (N i) j i := ⟨_, rfl⟩
  have eS : splN N dn ws.length i = cntB F ws.length := by rw [hF]; rfl
  rw [eS] at h
  unfold k_X11_sortedPlace_32L
  refine lfp_cnt ws.length (fun j y => y = (a, nI i, bI dn, nI (N i), nI (cntB F j), nI j, T)) ?_ rfl
  rintro P j _ hj rfl ih
  show k_X11_sortedPlace_32 Q dp _ a (nI i) (bI dn) (nI (N i)) (nI (cntB F j)) (nI j) T
  unfold k_X11_sortedPlace_32
  refine ⟨lT.1, q_lsize lT (pk_le ws.length j (fun z => ?_) (fun z => ?_))⟩
  · obtain rfl : j = ws.length := by omega
    exact h
  obtain ⟨E, hE⟩ := get_ex z
  obtain ⟨m1, m2, m3⟩ := hN j E hE
  refine ⟨lT.1, q_lget lT hE ⟨m1, m1, ?_⟩⟩
  rw [m2]
  rintro _ rfl
  have no : F j = false → k_X11_sortedPlace_106 Q dp (fun b0 b1 b2 b3 b4 b5 S => P (b0, b1, b2, b3, b4, b5, S)) a (nI i) (bI dn) (nI (N i)) (nI (cntB F j)) (nI j) T := by
    intro e
    unfold k_X11_sortedPlace_106
    rintro _ rfl
    rw [nI_add]
    refine ih _ z ?_
    rw [cntB, e, if_neg (by decide)]
    rfl
  have yes : F j = true → k_X11_sortedPlace_103 Q dp (fun b0 b1 b2 b3 b4 b5 S => P (b0, b1, b2, b3, b4, b5, S)) a (nI i) (bI dn) (nI (N i)) (nI (cntB F j)) (nI j) T := by
    intro e
    unfold k_X11_sortedPlace_103
    rintro _ rfl
    rw [nI_add]
    unfold k_X11_sortedPlace_106
    rintro _ rfl
    rw [nI_add]
    refine ih _ z ?_
    rw [cntB, e, if_pos rfl]
  have go : ∀ b : Bool, b = (if dn = true then decide (N i < N j) else decide (N j < N i)) → k_X11_sortedPlace_84 Q dp (fun b0 b1 b2 b3 b4 b5 S => P (b0, b1, b2, b3, b4, b5, S)) a (nI i) (bI dn) (nI (N i)) (nI (cntB F j)) (nI j) (nI (N j)) (bI b) T := by
    intro b hb
    have eF : F j = (b || (decide (N j = N i) && decide (j < i))) := by rw [hF, hb]; rfl
    unfold k_X11_sortedPlace_84
    refine w_bn b (fun e => yes (by rw [eF, e]; rfl)) (fun e => w_ne (N j) (N i) (fun c => no (by rw [eF, e, decide_eq_false c]; rfl)) (fun c => pk_le i j (fun c2 => no (by rw [eF, e, decide_eq_false (show ¬ j < i by omega), Bool.and_false]; rfl)) (fun c2 => yes (by rw [eF, e, decide_eq_true c, decide_eq_true c2]; rfl))))
  refine w_b0 dn (fun e => ?_) (fun e => ?_)
  · exact pk_le (N i) (N j) (fun c => go false (by rw [e, if_neg (by decide), decide_eq_false (by omega)])) (fun c => go true (by rw [e, if_neg (by decide), decide_eq_true c]))
  · exact pk_le (N j) (N i) (fun c => go false (by rw [e, if_pos rfl, decide_eq_false (by omega)])) (fun c => go true (by rw [e, if_pos rfl, decide_eq_true c]))
/-- the documents that match -/
noncomputable def dcQ (sg : Nat → List Dc) (s : Vw) (e : Nat × (Nat → Nd)) : List Dc := (mtQ sg s e).map (fun y => (sg y.1).getD y.2 ((0, 0, 0), [], []))
def dnO (L : List Dc) (i : Nat) : Nat := dN (L.getD i ((0, 0, 0), [], []))
theorem g_sortedAt {Q : Int32 → cS → Prop} {y z : Int32} {k mc ms : Nat} {dn : Bool} {e : Nat × (Nat → Nd)} (g : gIx S ρ dp x so sd sg made B ix mg cm pr sn op fi w cc off) (hM : ixM made ix mg cm pr sn) (gl : gQl S ρ dp x qs) (gR : gRd S ρ x w0 w1) (gF : gFn S ρ x H sk tk CL u mb sg) (hok : fiOk sg made sn qs w0 w1) (hex : ∃ s, s ∈ sn ∧ nI s.1 = y) (hk : qs[k]? = some e) (hz : ∀ s, s ∈ sn → nI s.1 = y → ∃ i, i < (dcQ sg s.2 e).length ∧ nI (splN (dnO (dcQ sg s.2 e)) dn (dcQ sg s.2 e).length i) = z) (hmc : 200 ≤ mc) (hms : 4000 ≤ ms) (h : ∀ T ρ' s i d, s ∈ sn → nI s.1 = y → fk S T ρ ρ' [36, 80, 18, 22, 23, 24, 25, 27] → (∀ a, a ∈ cL S → ρ' a = ρ a) → gRd T ρ' x w0 w1 → gFn T ρ' x H sk tk CL u mb sg → (dcQ sg s.2 e)[i]? = some d → nI (splN (dnO (dcQ sg s.2 e)) dn (dcQ sg s.2 e).length i) = z → Q (nI (dK d)) T) : k_X11_sortedAt Q dp mc ms x y (nI k) (bI dn) z S := by
  unfold k_X11_sortedAt
  refine ⟨g.1.1, ⟨by omega, by omega⟩, g_snapOf g hex (fun l i V s _ _ _ hs es gV => ⟨g.1.1, ⟨by omega, by omega⟩, g_queryOf g.1.1 gl hk (fun q gq => ?_)⟩)⟩
  have hsm := List.mem_of_getElem? hs
  obtain ⟨rd, wr, mo', fo, ro, pl, ra, gi, mk, fs, rw, r1, r2, -⟩ := id gR
  refine ⟨g.1.1, rd, r1, r2.1, mc, ms, by omega, by omega, g_matched g hM gR gF hok (List.mem_of_getElem? hk) hsm gV gq r1 hmc hms (fun T ρ' a ws wm fT oT gRT gFT lT pT => ?_)⟩
  have fin := fun i d => h T ρ' s i d hsm es fT oT gRT gFT
  have hz' := hz s hsm es
  obtain ⟨L, hL⟩ : ∃ L, L = dcQ sg s.2 e := ⟨_, rfl⟩
  have pT' : parL (fun D d => gFz T ρ' D d ∧ okD d) ws L := by rw [hL]; exact pT
  rw [← hL] at fin hz'
  have ll := parL_len pT'
  have l8 : ws.length < 8000 := by have := lT.2.2.1; have := lT.2.2.2.1; omega
  have hN : ∀ k D, ws[k]? = some D → cA T D 0 ∧ ci T 2 D = nI (dnO L k) ∧ dnO L k < 2 ^ 31 := fun k D hD => by
    obtain ⟨d, hd⟩ := get_ex (l := L) (k := k) (by have := get_lt hD; omega)
    obtain ⟨gD, okd⟩ := parL_get pT' hD hd
    have : dnO L k = dN d := by unfold dnO; rw [List.getD_eq_getElem?_getD, hd]; rfl
    have := okd.2.2.1
    exact ⟨gD.1, by rw [gD.2.2.2.2.1]; congr 1; omega, by omega⟩
  have bd : (0 + mc ≤ mc ∧ 0 + ms ≤ ms) := ⟨by omega, by omega⟩
  unfold k_X11_sortedAt_30L
  refine lfp_cnt ws.length (fun i y' => (∀ j, j < i → nI (splN (dnO L) dn L.length j) ≠ z) ∧ y' = (bI dn, z, a, nI i, 0 + mc, 0 + ms, T)) ?_ ⟨fun j hj => absurd hj (Nat.not_lt_zero j), rfl⟩
  rintro P i _ hi ⟨hno, rfl⟩ ih
  show k_X11_sortedAt_30 Q dp mc ms _ (bI dn) z a (nI i) (0 + mc) (0 + ms) T
  unfold k_X11_sortedAt_30
  refine ⟨lT.1, bd, q_lsize lT (pk_le ws.length i (fun w => ?_) (fun w => ⟨bd, q_sortedPlace lT hN w ?_⟩))⟩
  · obtain ⟨j, hj, e2⟩ := hz'
    exact absurd e2 (hno j (by omega))
  rw [ll]
  refine ⟨fun c => ?_, fun c => ?_⟩
  · rintro _ rfl
    rw [nI_add]
    refine ih _ w ⟨fun j hj => ?_, rfl⟩
    by_cases c2 : j = i
    · subst c2; exact c
    · exact hno j (by omega)
  · obtain ⟨D, hD⟩ := get_ex w
    obtain ⟨d, hd⟩ := get_ex (l := L) (k := i) (by omega)
    obtain ⟨gD, okd⟩ := parL_get pT' hD hd
    refine ⟨lT.1, bd, q_lget lT hD ⟨gD.1, gD.1, bd, ?_⟩⟩
    rw [gD.2.2.1]
    exact fin i d hd c
theorem x_sortedI {Q : cS → Prop} {y z : Int32} {k mc ms : Nat} {dn : Bool} {e : Nat × (Nat → Nd)} (g : gIx S ρ dp x so sd sg made B ix mg cm pr sn op fi w cc off) (hM : ixM made ix mg cm pr sn) (gl : gQl S ρ dp x qs) (gR : gRd S ρ x w0 w1) (gF : gFn S ρ x H sk tk CL u mb sg) (hok : fiOk sg made sn qs w0 w1) (hex : ∃ s, s ∈ sn ∧ nI s.1 = y) (hk : qs[k]? = some e) (hz : ∀ s, s ∈ sn → nI s.1 = y → ∀ i, i < (dcQ sg s.2 e).length → nI (splN (dnO (dcQ sg s.2 e)) dn (dcQ sg s.2 e).length i) ≠ z) (hmc : 201 ≤ mc) (hms : 4006 ≤ ms) (h : ∀ T ρ' s, s ∈ sn → nI s.1 = y → fk S T ρ ρ' [36, 80, 18, 22, 23, 24, 25, 27] → (∀ a, a ∈ cL S → ρ' a = ρ a) → gRd T ρ' x w0 w1 → gFn T ρ' x H sk tk CL u mb sg → Q T) : kx_X11_sortedAt "java/lang/IndexOutOfBoundsException" Q dp mc ms x y (nI k) (bI dn) z S := by
  unfold kx_X11_sortedAt
  refine ⟨g.1.1, Or.inl ⟨⟨by omega, by omega⟩, g_snapOf g hex (fun l i V s _ _ _ hs es gV => ⟨g.1.1, Or.inl ⟨⟨by omega, by omega⟩, g_queryOf g.1.1 gl hk (fun q gq => ?_)⟩⟩)⟩⟩
  have hsm := List.mem_of_getElem? hs
  obtain ⟨rd, wr, mo', fo, ro, pl, ra, gi, mk, fs, rw, r1, r2, -⟩ := id gR
  refine ⟨g.1.1, rd, r1, r2.1, mc - 1, ms - 6, by omega, by omega, g_matched g hM gR gF hok (List.mem_of_getElem? hk) hsm gV gq r1 (by omega) (by omega) (fun T ρ' a ws wm fT oT gRT gFT lT pT => ?_)⟩
  have fin := h T ρ' s hsm es fT oT gRT gFT
  have hz' := hz s hsm es
  obtain ⟨L, hL⟩ : ∃ L, L = dcQ sg s.2 e := ⟨_, rfl⟩
  have pT' : parL (fun D d => gFz T ρ' D d ∧ okD d) ws L := by rw [hL]; exact pT
  rw [← hL] at hz'
  have ll := parL_len pT'
  have l8 : ws.length < 8000 := by have := lT.2.2.1; have := lT.2.2.2.1; omega
  have hN : ∀ k D, ws[k]? = some D → cA T D 0 ∧ ci T 2 D = nI (dnO L k) ∧ dnO L k < 2 ^ 31 := fun k D hD => by
    obtain ⟨d, hd⟩ := get_ex (l := L) (k := k) (by have := get_lt hD; omega)
    obtain ⟨gD, okd⟩ := parL_get pT' hD hd
    have : dnO L k = dN d := by unfold dnO; rw [List.getD_eq_getElem?_getD, hd]; rfl
    have := okd.2.2.1
    exact ⟨gD.1, by rw [gD.2.2.2.2.1]; congr 1; omega, by omega⟩
  have bd : (0 + (mc - 1) ≤ mc ∧ 0 + (ms - 6) ≤ ms) := ⟨by omega, by omega⟩
  unfold kx_X11_sortedAt_30L
  refine lfp_cnt ws.length (fun i y' => y' = (bI dn, z, a, nI i, 0 + (mc - 1), 0 + (ms - 6), T)) ?_ rfl
  rintro P i _ hi rfl ih
  show kx_X11_sortedAt_30 _ Q dp mc ms _ (bI dn) z a (nI i) (0 + (mc - 1)) (0 + (ms - 6)) T
  unfold kx_X11_sortedAt_30
  refine ⟨lT.1, bd, q_lsize lT (pk_le ws.length i (fun w => ⟨rfl, ⟨by omega, by omega⟩, fin⟩) (fun w => ⟨bd, q_sortedPlace lT hN w ?_⟩))⟩
  rw [ll]
  refine ⟨fun c => ?_, fun c => absurd c (hz' i (by omega))⟩
  rintro _ rfl
  rw [nI_add]
  exact ih _ w rfl
theorem g_rankByScan {Q : Int32 → cS → Prop} {y : Int32} {k key : Nat} {e : Nat × (Nat → Nd)} (g : gIx S ρ dp x so sd sg made B ix mg cm pr sn op fi w cc off) (hM : ixM made ix mg cm pr sn) (gl : gQl S ρ dp x qs) (gR : gRd S ρ x w0 w1) (gF : gFn S ρ x H sk tk CL u mb sg) (hok : fiOk sg made sn qs w0 w1) (hex : ∃ s, s ∈ sn ∧ nI s.1 = y) (hk : qs[k]? = some e) (hkey : key < 100) (h0 : ∀ s, s ∈ sn → nI s.1 = y → (∀ (n j : Nat) (d : Dc), n ∈ s.2.1 → (sg n)[j]? = some d → s.2.2 n j = true → dK d ≠ key) → Q (-1) S) (h : ∀ T s n j d, s ∈ sn → nI s.1 = y → n ∈ s.2.1 → (sg n)[j]? = some d → s.2.2 n j = true → dK d = key → fk S T ρ ρ [18, 22, 25, 26, 27] → gRd T ρ x w0 w1 → gFn T ρ x H sk tk CL u mb sg → Q (cIn (vlN e.2 e.1 w0 w1 (rrL e.2 e.1 sg s.2.2 s.2.1) (sg n) j)) T) : k_X11_rankByScan Q dp x y (nI k) (nI key) S := by
  obtain ⟨o1, o2, o3, o4, o5, o6⟩ := hok
  obtain ⟨q1, q2, q3, q4⟩ := o4 e (List.mem_of_getElem? hk)
  unfold k_X11_rankByScan
  refine ⟨g.1.1, g_snapOf g hex (fun l i V s _ _ _ hs es gV => ⟨g.1.1, g_queryOf g.1.1 gl hk (fun q gq => q_checkKey hkey ⟨(g_vA gV).1, ?_⟩)⟩)⟩
  have hsm := List.mem_of_getElem? hs
  obtain ⟨rd, wr, mo', fo, ro, pl, ra, gi, mk, fs, rw, r1, r2, rr, r3, r4⟩ := id gR
  have hsM := hM.2.2.2.2 s hsm
  have st' : rSt S ρ dp so sd sg made V s.2.1 s.2.2 rd w0 w1 wr mo' fo ro pl ra gi mk fs rw q e.1 e.2 := ⟨g.2.1, hsM, gV, r2, gq⟩
  obtain ⟨hl, mm, hs', gv1, -⟩ := id gV
  refine q_vdoc gv1 (fun k' j n D d hn hD hd hlv ek => ⟨fun c => absurd c (by simp), fun b hb => ?_⟩) (fun hno => ⟨fun _ => h0 s hsm es (fun n j d hn hd hlv ek => hno n j d hn hd hlv (by rw [ek])), fun b hb => absurd hb (by simp)⟩)
  obtain rfl := Option.some.inj hb
  have hnm := List.mem_of_getElem? hn
  have gS := g.2.1 n (hsM n hnm)
  have dk100 : dK d < 100 := (gS.1.2.2.2.2 j D d hD hd).2.2
  have ek' : dK d = key := (nI_eq (by omega) (by omega)).mp ek
  refine ⟨g.1.1, rd, r1, r2.1, q_scanRarities st' q1 q2 (fun S1 f1 ra1 ro1 => ?_)⟩
  have nx : ρ x ∉ [26] := by rw [g.1.2.1]; decide
  have st1 := rSt_fk f1 (by decide) st'
  have x1 := fr_A f1.1 g.1.1
  have e1 : cr S1 364 x = some rd := (fr_cr f1.1 g.1.1 nx).trans r1
  have gF1 := gFz_fr f1.1 (by decide) (gS.2.2.2.1 j D d hD hd)
  refine ⟨x1, rd, e1, st1.2.2.2.1.1, q_scanDocument st1.2.2.2.1 st1.2.2.2.2 q1 q2 gF1 (fun fl z hz => o1 n (hsM n hnm) d (List.mem_of_getElem? hd) fl z hz) (fun S2 f2 h2 => ?_)⟩
  have nx2 : ρ x ∉ [18, 22, 25] := by rw [g.1.2.1]; decide
  have st2 := rSt_fk f2 (by decide) st1
  have ra2 : ∀ i, i < (lfI e.2 e.1).length → cI S2 ra i = nI (rrL e.2 e.1 sg s.2.2 s.2.1 i) := fun i hi => by
    have a1 := st1.2.2.2.1.2.2.2.2.2.2.2.1
    rw [sub_cI f2.1.1 a1.2.1 (by rw [a1.2.2.2]; decide), ra1 i hi]
    unfold rrL
    rw [if_pos hi]
  have hall := o3 s hsm
  refine ⟨fr_A f2.1 x1, rd, (fr_cr f2.1 x1 nx2).trans e1, st2.2.2.2.1.1, q_valueAt (rr := rrL e.2 e.1 sg s.2.2 s.2.1) (mA := fun i => mkO d (lfD e.2 e.1 i)) st2.2.2.2.1 st2.2.2.2.2 q1 q3 q2 (by decide) (by decide) q4 ⟨o5, o6⟩ (rrL_le q1 (by omega)) (by decide) h2 ra2 (fun T fT => ?_)⟩
  have f0T : fk S T ρ ρ [18, 22, 25, 26, 27] := fk_s (fk_up f1 (by decide)) (fk_s (fk_up f2 (by decide)) (fk_up (fr_fk fT (by decide)) (by decide)))
  have nxT : ρ x ∉ [18, 22, 25, 26, 27] := by rw [g.1.2.1]; decide
  have xr : ∀ z, cr T z x = cr S z x := fun z => fr_cr f0T.1 g.1.1 nxT
  have ev : evS e.2 (gvF e.2 e.1 w0 w1 (rrL e.2 e.1 sg s.2.2 s.2.1) (fun i => mkO d (lfD e.2 e.1 i))) e.1 0 = vlN e.2 e.1 w0 w1 (rrL e.2 e.1 sg s.2.2 s.2.1) (sg n) j := by
    unfold vlN
    congr 2
    funext i
    exact (mkA_O hd).symm
  rw [ev]
  refine h T s n j d hsm es hnm hd hlv ek' f0T ⟨rd, wr, mo', fo, ro, pl, ra, gi, mk, fs, rw, (xr _).trans r1, rdr_s f0T.1 (by decide) (by decide) r2, fun i => if i < (lfI e.2 e.1).length then rrL e.2 e.1 sg s.2.2 s.2.1 i else rr i, fun i => ?_, fun i hi => ?_⟩ (gFn_f f0T.1 (by decide) (xr _) (xr _) gF)
  · show (if i < _ then _ else _) ≤ 102
    split
    · exact rrL_le q1 (by omega) i
    · exact r3 i
  · have a1 := r2.2.2.2.2.2.2.2.1
    have sm : cI T ra = cI S1 ra := by
      have a2 := st1.2.2.2.1.2.2.2.2.2.2.2.1
      have a3 := st2.2.2.2.1.2.2.2.2.2.2.2.1
      rw [sub_cI fT.1 a3.2.1 (by rw [a3.2.2.2]; decide), sub_cI f2.1.1 a2.2.1 (by rw [a2.2.2.2]; decide)]
    rw [sm]
    show _ = nI (if i < _ then _ else _)
    by_cases c1 : i < (lfI e.2 e.1).length
    · rw [if_pos c1, ra1 i c1]
      unfold rrL
      rw [if_pos c1]
    · rw [if_neg c1, ro1 i (by omega)]; exact r4 i hi
theorem g_passages {Q : Int32 → cS → Prop} {y : Int32} {k key fl : Nat} {e : Nat × (Nat → Nd)} (g : gIx S ρ dp x so sd sg made B ix mg cm pr sn op fi w cc off) (hM : ixM made ix mg cm pr sn) (gl : gQl S ρ dp x qs) (gR : gRd S ρ x w0 w1) (gF : gFn S ρ x H sk tk CL u mb sg) (hok : fiOk sg made sn qs w0 w1) (hex : ∃ s, s ∈ sn ∧ nI s.1 = y) (hk : qs[k]? = some e) (hkey : key < 100) (hfl : fl < 2) (h0 : ∀ s, s ∈ sn → nI s.1 = y → (∀ (n j : Nat) (d : Dc), n ∈ s.2.1 → (sg n)[j]? = some d → s.2.2 n j = true → dK d ≠ key) → Q (nI 0) S) (h : ∀ T s n j d, s ∈ sn → nI s.1 = y → n ∈ s.2.1 → (sg n)[j]? = some d → s.2.2 n j = true → dK d = key → fk S T ρ ρ [18, 22, 25, 27, 34, 35] → gRd T ρ x w0 w1 → gFn T ρ x H sk tk CL u mb sg → Q (nI (psM e d fl).length) T) : k_X11_passages Q dp x y (nI k) (nI key) (nI fl) S := by
  obtain ⟨o1, o2, o3, o4, o5, o6⟩ := hok
  obtain ⟨q1, q2, q3, q4⟩ := o4 e (List.mem_of_getElem? hk)
  obtain ⟨rd', fd, hk', hr, cq, cs, ct, cm', st, sp, cmr, f1, f2, f3, f4, f5, f6, f7⟩ := id gF
  unfold k_X11_passages
  refine ⟨g.1.1, g_snapOf g hex (fun l i V s _ _ _ hs es gV => ⟨g.1.1, g_queryOf g.1.1 gl hk (fun q gq => q_checkKey hkey (q_checkN hfl ⟨g.1.1, fd, f2, (g_vA gV).1, ?_⟩))⟩)⟩
  have hsm := List.mem_of_getElem? hs
  obtain ⟨rd, wr, mo', fo, ro, pl, ra, gi, mk, fs, rw, r1, r2, rr, r3, r4⟩ := id gR
  obtain rfl := Option.some.inj (f1.symm.trans r1)
  have hsM := hM.2.2.2.2 s hsm
  obtain ⟨hl, mm, hs', gv1, -⟩ := id gV
  refine q_vdoc gv1 (fun k' j n D d hn hD hd hlv ek => ⟨fun c => absurd c (by simp), fun b hb => ⟨f3.1, ?_⟩⟩) (fun hno => ⟨fun _ => ⟨f3.1, ?_⟩, fun b hb => absurd hb (by simp)⟩)
  · obtain rfl := Option.some.inj hb
    have hnm := List.mem_of_getElem? hn
    have gS := g.2.1 n (hsM n hnm)
    have dk100 : dK d < 100 := (gS.1.2.2.2.2 j D d hD hd).2.2
    have ek' : dK d = key := (nI_eq (by omega) (by omega)).mp ek
    refine q_readPassages (rr := rr) f3 r2 gq q1 q2 q3 q4 ⟨o5, o6⟩ r3 r4 hfl (gS.2.2.2.1 j D d hD hd) (fun fl z hz => o1 n (hsM n hnm) d (List.mem_of_getElem? hd) fl z hz) (fun T fT hT => ?_)
    have nx : ρ x ∉ [18, 22, 25, 27, 34, 35] := by rw [g.1.2.1]; decide
    have xr : ∀ z, cr T z x = cr S z x := fun z => fr_cr fT.1 g.1.1 nx
    have nf : ρ fd ∉ [18, 22, 25, 27, 34, 35] := by rw [f3.2.1]; decide
    have fr' : ∀ z, cr T z fd = cr S z fd := fun z => fr_cr fT.1 f3.1 nf
    have fi' : ∀ z, ci T z fd = ci S z fd := fun z => fr_ci fT.1 f3.1 nf
    have f3T := fdK_fk fT (by decide) fr' f3
    have gFT : gFn T ρ x H sk tk CL u mb sg := by
      refine ⟨_, fd, hk', hr, cq, cs, ct, cm', st, sp, cmr, (xr _).trans f1, (xr _).trans f2, f3T, ⟨(fi' _).trans f4.1, f4.2.1, ?_⟩, (fi' _).trans f5, (fi' _).trans f6, (fi' _).trans f7.1, f7.2.1, (fi' _).trans f7.2.2.1, fun i y hy => ?_⟩
      · obtain ⟨-, -, -, a1, a2, -⟩ := f3
        rw [sub_cI fT.1.1 a1.2.1 (by rw [a1.2.2.2]; decide), sub_cI fT.1.1 a2.2.1 (by rw [a2.2.2.2]; decide)]
        exact f4.2.2
      · obtain ⟨-, -, -, -, -, a1, a2, a3, a4, -, -⟩ := f3
        have i8 : i < 8 := by have := get_lt hy; have := f7.2.1; omega
        have a4' := a4.2.2.2.2.1 i i8
        rw [sub_cI fT.1.1 a1.2.1 (by rw [a1.2.2.2]; decide), sub_cI fT.1.1 a2.2.1 (by rw [a2.2.2.2]; decide), sub_cI fT.1.1 a3.2.1 (by rw [a3.2.2.2]; decide), sub_cI fT.1.1 a4'.2.1 (by rw [a4'.2.2.2]; decide)]
        exact f7.2.2.2 i y hy
    have fin := h T s n j d hsm es hnm hd hlv ek' fT (gRd_k fT (by decide) (fun _ _ => rfl) (xr _) gR) gFT
    rw [psD_M] at hT ⊢
    exact fin
  · refine ⟨fun _ => h0 s hsm es (fun n j d hn hd hlv ek => hno n j d hn hd hlv (by rw [ek])), fun b hb => absurd hb (by simp)⟩
theorem x_matchesS {Q : cS → Prop} {y z : Int32} {mc ms : Nat} (g : gIx S ρ dp x so sd sg made B ix mg cm pr sn op fi w cc off) (hno : ∀ s, s ∈ sn → nI s.1 ≠ y) (hm : 1 ≤ mc) (hs : 6 ≤ ms) (h : Q S) : kx_X11_matches "java/lang/IndexOutOfBoundsException" Q dp mc ms x y z S := by
  unfold kx_X11_matches
  exact ⟨g.1.1, Or.inr ⟨mc, ms, ⟨by omega, by omega⟩, x_snapOf g hno hm hs h⟩⟩
theorem x_matchesQ {Q : cS → Prop} {y z : Int32} {mc ms : Nat} (g : gIx S ρ dp x so sd sg made B ix mg cm pr sn op fi w cc off) (gl : gQl S ρ dp x qs) (hex : ∃ s, s ∈ sn ∧ nI s.1 = y) (hk : ∀ k, k < qs.length → z ≠ nI k) (hm : 1 ≤ mc) (hs : 6 ≤ ms) (h : Q S) : kx_X11_matches "java/lang/IndexOutOfBoundsException" Q dp mc ms x y z S := by
  unfold kx_X11_matches
  exact ⟨g.1.1, Or.inl ⟨⟨by omega, by omega⟩, g_snapOf g hex (fun l i V s _ _ _ _ _ _ => ⟨g.1.1, Or.inr ⟨mc, ms, ⟨by omega, by omega⟩, x_queryOf g.1.1 gl hk hm hs h⟩⟩)⟩⟩
theorem x_matchesByScanS {Q : cS → Prop} {y z : Int32} {mc ms : Nat} (g : gIx S ρ dp x so sd sg made B ix mg cm pr sn op fi w cc off) (hno : ∀ s, s ∈ sn → nI s.1 ≠ y) (hm : 1 ≤ mc) (hs : 6 ≤ ms) (h : Q S) : kx_X11_matchesByScan "java/lang/IndexOutOfBoundsException" Q dp mc ms x y z S := by
  unfold kx_X11_matchesByScan
  exact ⟨g.1.1, Or.inr ⟨mc, ms, ⟨by omega, by omega⟩, x_snapOf g hno hm hs h⟩⟩
theorem x_matchesByScanQ {Q : cS → Prop} {y z : Int32} {mc ms : Nat} (g : gIx S ρ dp x so sd sg made B ix mg cm pr sn op fi w cc off) (gl : gQl S ρ dp x qs) (hex : ∃ s, s ∈ sn ∧ nI s.1 = y) (hk : ∀ k, k < qs.length → z ≠ nI k) (hm : 1 ≤ mc) (hs : 6 ≤ ms) (h : Q S) : kx_X11_matchesByScan "java/lang/IndexOutOfBoundsException" Q dp mc ms x y z S := by
  unfold kx_X11_matchesByScan
  exact ⟨g.1.1, Or.inl ⟨⟨by omega, by omega⟩, g_snapOf g hex (fun l i V s _ _ _ _ _ _ => ⟨g.1.1, Or.inr ⟨mc, ms, ⟨by omega, by omega⟩, x_queryOf g.1.1 gl hk hm hs h⟩⟩)⟩⟩
theorem x_facetS {Q : cS → Prop} {y z t1 : Int32} {mc ms : Nat} (g : gIx S ρ dp x so sd sg made B ix mg cm pr sn op fi w cc off) (hno : ∀ s, s ∈ sn → nI s.1 ≠ y) (hm : 1 ≤ mc) (hs : 6 ≤ ms) (h : Q S) : kx_X11_facet "java/lang/IndexOutOfBoundsException" Q dp mc ms x y z t1 S := by
  unfold kx_X11_facet
  exact ⟨g.1.1, Or.inr ⟨mc, ms, ⟨by omega, by omega⟩, x_snapOf g hno hm hs h⟩⟩
theorem x_facetQ {Q : cS → Prop} {y z t1 : Int32} {mc ms : Nat} (g : gIx S ρ dp x so sd sg made B ix mg cm pr sn op fi w cc off) (gl : gQl S ρ dp x qs) (hex : ∃ s, s ∈ sn ∧ nI s.1 = y) (hk : ∀ k, k < qs.length → z ≠ nI k) (hm : 1 ≤ mc) (hs : 6 ≤ ms) (h : Q S) : kx_X11_facet "java/lang/IndexOutOfBoundsException" Q dp mc ms x y z t1 S := by
  unfold kx_X11_facet
  exact ⟨g.1.1, Or.inl ⟨⟨by omega, by omega⟩, g_snapOf g hex (fun l i V s _ _ _ _ _ _ => ⟨g.1.1, Or.inr ⟨mc, ms, ⟨by omega, by omega⟩, x_queryOf g.1.1 gl hk hm hs h⟩⟩)⟩⟩
theorem x_sortedAtS {Q : cS → Prop} {y z t1 t2 : Int32} {mc ms : Nat} (g : gIx S ρ dp x so sd sg made B ix mg cm pr sn op fi w cc off) (hno : ∀ s, s ∈ sn → nI s.1 ≠ y) (hm : 1 ≤ mc) (hs : 6 ≤ ms) (h : Q S) : kx_X11_sortedAt "java/lang/IndexOutOfBoundsException" Q dp mc ms x y z t1 t2 S := by
  unfold kx_X11_sortedAt
  exact ⟨g.1.1, Or.inr ⟨mc, ms, ⟨by omega, by omega⟩, x_snapOf g hno hm hs h⟩⟩
theorem x_sortedAtQ {Q : cS → Prop} {y z t1 t2 : Int32} {mc ms : Nat} (g : gIx S ρ dp x so sd sg made B ix mg cm pr sn op fi w cc off) (gl : gQl S ρ dp x qs) (hex : ∃ s, s ∈ sn ∧ nI s.1 = y) (hk : ∀ k, k < qs.length → z ≠ nI k) (hm : 1 ≤ mc) (hs : 6 ≤ ms) (h : Q S) : kx_X11_sortedAt "java/lang/IndexOutOfBoundsException" Q dp mc ms x y z t1 t2 S := by
  unfold kx_X11_sortedAt
  exact ⟨g.1.1, Or.inl ⟨⟨by omega, by omega⟩, g_snapOf g hex (fun l i V s _ _ _ _ _ _ => ⟨g.1.1, Or.inr ⟨mc, ms, ⟨by omega, by omega⟩, x_queryOf g.1.1 gl hk hm hs h⟩⟩)⟩⟩
theorem x_rankByScanS {Q : cS → Prop} {y z t1 : Int32} {mc ms : Nat} (g : gIx S ρ dp x so sd sg made B ix mg cm pr sn op fi w cc off) (hno : ∀ s, s ∈ sn → nI s.1 ≠ y) (hm : 1 ≤ mc) (hs : 6 ≤ ms) (h : Q S) : kx_X11_rankByScan "java/lang/IndexOutOfBoundsException" Q dp mc ms x y z t1 S := by
  unfold kx_X11_rankByScan
  exact ⟨g.1.1, Or.inr ⟨mc, ms, ⟨by omega, by omega⟩, x_snapOf g hno hm hs h⟩⟩
theorem x_rankByScanQ {Q : cS → Prop} {y z t1 : Int32} {mc ms : Nat} (g : gIx S ρ dp x so sd sg made B ix mg cm pr sn op fi w cc off) (gl : gQl S ρ dp x qs) (hex : ∃ s, s ∈ sn ∧ nI s.1 = y) (hk : ∀ k, k < qs.length → z ≠ nI k) (hm : 1 ≤ mc) (hs : 6 ≤ ms) (h : Q S) : kx_X11_rankByScan "java/lang/IndexOutOfBoundsException" Q dp mc ms x y z t1 S := by
  unfold kx_X11_rankByScan
  exact ⟨g.1.1, Or.inl ⟨⟨by omega, by omega⟩, g_snapOf g hex (fun l i V s _ _ _ _ _ _ => ⟨g.1.1, Or.inr ⟨mc, ms, ⟨by omega, by omega⟩, x_queryOf g.1.1 gl hk hm hs h⟩⟩)⟩⟩
theorem x_passagesS {Q : cS → Prop} {y z t1 t2 : Int32} {mc ms : Nat} (g : gIx S ρ dp x so sd sg made B ix mg cm pr sn op fi w cc off) (hno : ∀ s, s ∈ sn → nI s.1 ≠ y) (hm : 1 ≤ mc) (hs : 6 ≤ ms) (h : Q S) : kx_X11_passages "java/lang/IndexOutOfBoundsException" Q dp mc ms x y z t1 t2 S := by
  unfold kx_X11_passages
  exact ⟨g.1.1, Or.inr ⟨mc, ms, ⟨by omega, by omega⟩, x_snapOf g hno hm hs h⟩⟩
theorem x_passagesQ {Q : cS → Prop} {y z t1 t2 : Int32} {mc ms : Nat} (g : gIx S ρ dp x so sd sg made B ix mg cm pr sn op fi w cc off) (gl : gQl S ρ dp x qs) (hex : ∃ s, s ∈ sn ∧ nI s.1 = y) (hk : ∀ k, k < qs.length → z ≠ nI k) (hm : 1 ≤ mc) (hs : 6 ≤ ms) (h : Q S) : kx_X11_passages "java/lang/IndexOutOfBoundsException" Q dp mc ms x y z t1 t2 S := by
  unfold kx_X11_passages
  exact ⟨g.1.1, Or.inl ⟨⟨by omega, by omega⟩, g_snapOf g hex (fun l i V s _ _ _ _ _ _ => ⟨g.1.1, Or.inr ⟨mc, ms, ⟨by omega, by omega⟩, x_queryOf g.1.1 gl hk hm hs h⟩⟩)⟩⟩
theorem x_facetA {Q : cS → Prop} {y t : Int32} {k mc ms : Nat} {e : Nat × (Nat → Nd)} (g : gIx S ρ dp x so sd sg made B ix mg cm pr sn op fi w cc off) (gl : gQl S ρ dp x qs) (hex : ∃ s, s ∈ sn ∧ nI s.1 = y) (hk : qs[k]? = some e) (ht : ∀ l, l ≤ 9 → t ≠ nI l) (hm : 1 ≤ mc) (hs : 6 ≤ ms) (h : Q S) : kx_X11_facet "java/lang/IllegalArgumentException" Q dp mc ms x y (nI k) t S := by
  have bd : (0 + 1 ≤ mc ∧ 0 + 6 ≤ ms) := ⟨by omega, by omega⟩
  unfold kx_X11_facet
  refine ⟨g.1.1, Or.inl ⟨⟨by omega, by omega⟩, g_snapOf g hex (fun l i V s _ _ _ _ _ _ => ⟨g.1.1, Or.inl ⟨⟨by omega, by omega⟩, g_queryOf g.1.1 gl hk (fun q _ => ⟨fun _ => ⟨rfl, bd, h⟩, fun c => ⟨fun c2 => ?_, fun _ => ⟨rfl, bd, h⟩⟩⟩)⟩⟩)⟩⟩
  obtain ⟨l, l31, rfl⟩ := nI_of c
  exact absurd rfl (ht l ((nI_leI l31 (by decide)).mp c2))
theorem x_rankByScanK {Q : cS → Prop} {y t : Int32} {k mc ms : Nat} {e : Nat × (Nat → Nd)} (g : gIx S ρ dp x so sd sg made B ix mg cm pr sn op fi w cc off) (gl : gQl S ρ dp x qs) (hex : ∃ s, s ∈ sn ∧ nI s.1 = y) (hk : qs[k]? = some e) (ht : ∀ l, l < 100 → t ≠ nI l) (hm : 1 ≤ mc) (hs : 6 ≤ ms) (h : Q S) : kx_X11_rankByScan "java/lang/IndexOutOfBoundsException" Q dp mc ms x y (nI k) t S := by
  unfold kx_X11_rankByScan
  exact ⟨g.1.1, Or.inl ⟨⟨by omega, by omega⟩, g_snapOf g hex (fun l i V s _ _ _ _ _ _ => ⟨g.1.1, Or.inl ⟨⟨by omega, by omega⟩, g_queryOf g.1.1 gl hk (fun q _ => Or.inr ⟨mc, ms, ⟨by omega, by omega⟩, x_checkKey ht hm hs h⟩)⟩⟩)⟩⟩
theorem x_passagesK {Q : cS → Prop} {y t t2 : Int32} {k mc ms : Nat} {e : Nat × (Nat → Nd)} (g : gIx S ρ dp x so sd sg made B ix mg cm pr sn op fi w cc off) (gl : gQl S ρ dp x qs) (hex : ∃ s, s ∈ sn ∧ nI s.1 = y) (hk : qs[k]? = some e) (ht : ∀ l, l < 100 → t ≠ nI l) (hm : 1 ≤ mc) (hs : 6 ≤ ms) (h : Q S) : kx_X11_passages "java/lang/IndexOutOfBoundsException" Q dp mc ms x y (nI k) t t2 S := by
  unfold kx_X11_passages
  exact ⟨g.1.1, Or.inl ⟨⟨by omega, by omega⟩, g_snapOf g hex (fun l i V s _ _ _ _ _ _ => ⟨g.1.1, Or.inl ⟨⟨by omega, by omega⟩, g_queryOf g.1.1 gl hk (fun q _ => Or.inr ⟨mc, ms, ⟨by omega, by omega⟩, x_checkKey ht hm hs h⟩)⟩⟩)⟩⟩
theorem x_passagesF {Q : cS → Prop} {y t : Int32} {k key mc ms : Nat} {e : Nat × (Nat → Nd)} (g : gIx S ρ dp x so sd sg made B ix mg cm pr sn op fi w cc off) (gl : gQl S ρ dp x qs) (hex : ∃ s, s ∈ sn ∧ nI s.1 = y) (hk : qs[k]? = some e) (hkey : key < 100) (ht : ∀ l, l < 2 → t ≠ nI l) (hm : 1 ≤ mc) (hs : 6 ≤ ms) (h : Q S) : kx_X11_passages "java/lang/IndexOutOfBoundsException" Q dp mc ms x y (nI k) (nI key) t S := by
  unfold kx_X11_passages
  exact ⟨g.1.1, Or.inl ⟨⟨by omega, by omega⟩, g_snapOf g hex (fun l i V s _ _ _ _ _ _ => ⟨g.1.1, Or.inl ⟨⟨by omega, by omega⟩, g_queryOf g.1.1 gl hk (fun q _ => Or.inl ⟨⟨by omega, by omega⟩, q_checkKey hkey (Or.inr ⟨mc, ms, ⟨by omega, by omega⟩, x_checkN ht hm hs h⟩)⟩)⟩⟩)⟩⟩
end MQ
