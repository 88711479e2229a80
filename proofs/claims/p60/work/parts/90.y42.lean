/-! the index, merges, commits, snapshots together -/
/-- segments by their numbers, and what is live of them -/
abbrev Vw := List Nat × (Nat → Nat → Bool)
/-- a view that may be missing -/
def gOv (S : cS) (ρ : Nat → Nat) (dp : Nat) (so : Nat → Nat) (sd : Nat → List Nat) (sg : Nat → List Dc) : Option Nat → Option Vw → Prop
  | none, none => True
  | some V, some w => gVw S ρ dp so sd sg 11 11 V w.1 w.2
  | _, _ => False
/-- what is copied by a merge -/
def mgC : Option (Vw × Nat) → Nat
  | none => 0
  | some m => m.2
/-- snapshots -/
def gSs (S : cS) (ρ : Nat → Nat) (dp x : Nat) (so : Nat → Nat) (sd : Nat → List Nat) (sg : Nat → List Dc) (sn : List (Nat × Vw)) : Prop := ∃ l, gSn S ρ dp x l ∧ parL (fun V s => gVw S ρ dp so sd sg 11 11 V s.2.1 s.2.2 ∧ ci S 320 V = nI s.1) l sn
/-- all segments that a view names are made -/
def vwM (made : Nat) (w : Vw) : Prop := ∀ n, n ∈ w.1 → n < made
def ovM (made : Nat) (o : Option Vw) : Prop := ∀ w, o = some w → vwM made w
def ssM (made : Nat) (sn : List (Nat × Vw)) : Prop := ∀ s, s ∈ sn → vwM made s.2
/-- the machine but for the language, the draft, queries and finding -/
def gIx (S : cS) (ρ : Nat → Nat) (dp x : Nat) (so : Nat → Nat) (sd : Nat → List Nat) (sg : Nat → List Dc) (made : Nat) (B : List Dc) (ix : Vw) (mg : Option (Vw × Nat)) (cm pr : Option Vw) (sn : List (Nat × Vw)) (op fi w : Nat) (cc : Option Nat) (off : Bool) : Prop :=
  (cA S x 11 ∧ ρ x = 1 ∧ dpO dp S) ∧ gSegs S ρ dp so sd sg made ∧ gBf S ρ dp x B ∧ (∃ V, cr S 355 x = some V ∧ gVw S ρ dp so sd sg 9 10 V ix.1 ix.2) ∧ (gOv S ρ dp so sd sg (cr S 356 x) (mg.map (fun m => m.1)) ∧ ci S 357 x = nI (mgC mg)) ∧ gOv S ρ dp so sd sg (cr S 358 x) cm ∧ gOv S ρ dp so sd sg (cr S 359 x) pr ∧ gSs S ρ dp x so sd sg sn ∧ (ci S 361 x = nI op ∧ ci S 366 x = nI made ∧ ci S 367 x = nI fi ∧ ci S 368 x = nI w ∧ ci S 369 x = cIn cc ∧ ci S 370 x = bI off)
/-- which segments are named -/
def ixM (made : Nat) (ix : Vw) (mg : Option (Vw × Nat)) (cm pr : Option Vw) (sn : List (Nat × Vw)) : Prop := vwM made ix ∧ ovM made (mg.map (fun m => m.1)) ∧ ovM made cm ∧ ovM made pr ∧ ssM made sn
section IX
variable {S T : cS} {ρ ρ' : Nat → Nat} {M : List Nat} {dp x made : Nat} {so so' : Nat → Nat} {sd sd' : Nat → List Nat} {sg sg' : Nat → List Dc}
theorem gVw_ci {τl τh V : Nat} {ids : List Nat} {lv : Nat → Nat → Bool} {q : Nat} (h : fr S T ρ ρ' M) (h2 : τh ∉ M) (g : gVw S ρ dp so sd sg τl τh V ids lv) : ci T q V = ci S q V := by
  obtain ⟨hl, m, hs, g1, -, -, g4, -⟩ := g
  exact fr_ci h g1.1 (by rw [g4]; exact h2)
theorem gOv_fr {o : Option Nat} {w : Option Vw} (h : fr S T ρ ρ' M) (hm : 11 ∉ M) (gs : gSegs T ρ' dp so sd sg made) (hid : ovM made w) (g : gOv S ρ dp so sd sg o w) : gOv T ρ' dp so sd sg o w := by
  cases o with
  | none => cases w with
    | none => trivial
    | some w => exact absurd g id
  | some V => cases w with
    | none => exact absurd g id
    | some w => exact gVw_fr h hm hm gs (hid w rfl) g
theorem parL_imp2 {α β : Type} {R R' : α → β → Prop} : ∀ {l : List α} {m : List β}, (∀ x y, y ∈ m → R x y → R' x y) → parL R l m → parL R' l m
  | [], [], _, _ => trivial
  | _ :: _, _ :: _, hR, h => ⟨hR _ _ (List.mem_cons_self ..) h.1, parL_imp2 (fun x y hy => hR x y (List.mem_cons_of_mem _ hy)) h.2⟩
  | [], _ :: _, _, h => absurd h id
  | _ :: _, [], _, h => absurd h id
theorem gSs_fr {sn : List (Nat × Vw)} (h : fr S T ρ ρ' M) (hm : 11 ∉ M) (h14 : 14 ∉ M) (hx : cr T 360 x = cr S 360 x) (gs : gSegs T ρ' dp so sd sg made) (hid : ssM made sn) (g : gSs S ρ dp x so sd sg sn) : gSs T ρ' dp x so sd sg sn := by
  obtain ⟨l, g1, g2⟩ := g
  refine ⟨l, gSn_fr h h14 hx g1, parL_imp2 (fun V s hs g => ⟨gVw_fr h hm hm gs (hid s hs) g.1, ?_⟩) g2⟩
  rw [gVw_ci h hm g.1]; exact g.2
/-- .. and names of segments may change where they don't count -/
theorem gOv_ext {o : Option Nat} {w : Option Vw} (he : ∀ m, m < made → so' m = so m ∧ sd' m = sd m ∧ sg' m = sg m) (hid : ovM made w) (g : gOv S ρ dp so sd sg o w) : gOv S ρ dp so' sd' sg' o w := by
  cases o with
  | none => cases w with
    | none => trivial
    | some w => exact absurd g id
  | some V => cases w with
    | none => exact absurd g id
    | some w => exact gVw_ext (fun m hm => he m (hid w rfl m hm)) g
theorem gSs_ext {sn : List (Nat × Vw)} (he : ∀ m, m < made → so' m = so m ∧ sd' m = sd m ∧ sg' m = sg m) (hid : ssM made sn) (g : gSs S ρ dp x so sd sg sn) : gSs S ρ dp x so' sd' sg' sn := by
  obtain ⟨l, g1, g2⟩ := g
  exact ⟨l, g1, parL_imp2 (fun V s hs g => ⟨gVw_ext (fun m hm => he m (hid s hs m hm)) g.1, g.2⟩) g2⟩
theorem up_ext {α : Type} {f : Nat → α} {y : α} {m : Nat} (h : m < made) : upR f made y m = f m := upR_n (by omega)
/-- nothing of this has changed -/
theorem gIx_fk {B : List Dc} {ix : Vw} {mg : Option (Vw × Nat)} {cm pr : Option Vw} {sn : List (Nat × Vw)} {op fi w : Nat} {cc : Option Nat} {off : Bool} (h : fk S T ρ ρ' M) (hM : [8, 7, 9, 10, 11, 14].all (fun τ => !M.contains τ) = true) (hm : ixM made ix mg cm pr sn) (hρ : ρ' x = 1) (hr : ∀ q, q ∈ [354, 355, 356, 358, 359, 360] → cr T q x = cr S q x) (hi : ∀ q, q ∈ [357, 361, 366, 367, 368, 369, 370] → ci T q x = ci S q x) (g : gIx S ρ dp x so sd sg made B ix mg cm pr sn op fi w cc off) : gIx T ρ' dp x so sd sg made B ix mg cm pr sn op fi w cc off := by
  obtain ⟨⟨a1, a2, a3⟩, b, c, ⟨V, d1, d2⟩, ⟨e1, e2⟩, f1, f2, f3, i1, i2, i3, i4, i5, i6⟩ := g
  have nM : ∀ τ, τ ∈ [8, 7, 9, 10, 11, 14] → τ ∉ M := fun τ hτ hin => by
    have := List.all_eq_true.mp hM τ hτ
    rw [List.contains_iff_mem.mpr hin] at this
    exact Bool.noConfusion this
  have gs := gSegs_fr h (nM 8 (by decide)) b
  refine ⟨⟨sub_A1 h.1.1 a1, hρ, dp_O⟩, gs, gBf_fr h.1 (nM 8 (by decide)) (nM 7 (by decide)) (hr _ (by decide)) c, ⟨V, (hr _ (by decide)).trans d1, gVw_fr h.1 (nM 9 (by decide)) (nM 10 (by decide)) gs hm.1 d2⟩, ⟨?_, (hi _ (by decide)).trans e2⟩, ?_, ?_, gSs_fr h.1 (nM 11 (by decide)) (nM 14 (by decide)) (hr _ (by decide)) gs hm.2.2.2.2 f3, (hi _ (by decide)).trans i1, (hi _ (by decide)).trans i2, (hi _ (by decide)).trans i3, (hi _ (by decide)).trans i4, (hi _ (by decide)).trans i5, (hi _ (by decide)).trans i6⟩
  · rw [hr _ (by decide)]; exact gOv_fr h.1 (nM 11 (by decide)) gs hm.2.1 e1
  · rw [hr _ (by decide)]; exact gOv_fr h.1 (nM 11 (by decide)) gs hm.2.2.1 f1
  · rw [hr _ (by decide)]; exact gOv_fr h.1 (nM 11 (by decide)) gs hm.2.2.2.1 f2
/-- tags of a new view -/
noncomputable def vtg (S T : cS) (ρ : Nat → Nat) (dp hl τl τh : Nat) : Nat → Nat := fun a => if a ∈ cL S then ρ a else @ite Nat (lsF T dp hl a) (Classical.propDecidable _) τl τh
theorem mkVw {V hl m τl τh : Nat} {hs ids : List Nat} {lv : Nat → Nat → Bool} (s : cSub S T (fun _ => False)) (hN : vwN S T dp V hl hs) (g : vwT T dp so sd sg V hl m hs ids lv) (hm : m ≤ 620) : fr S T ρ (vtg S T ρ dp hl τl τh) [] ∧ gVw T (vtg S T ρ dp hl τl τh) dp so sd sg τl τh V ids lv := by
  obtain ⟨n1, n2, n3, n4⟩ := hN
  have o : ∀ a, a ∈ cL S → vtg S T ρ dp hl τl τh a = ρ a := fun a ha => if_pos ha
  have l1 := g.2.2.1
  have nL : ∀ {z k : Nat}, cA T z k → k ≠ 12 → k ≠ 17 → ¬ lsF T dp hl z := by
    intro z k hz h12 h17 hF
    obtain ⟨a1, -, -, -, -, -, b, hb, hx⟩ := l1
    rcases hF with w | ⟨w, w2⟩
    · exact cA_ne hz a1 h12 w
    · obtain rfl : b = z := Option.some.inj (hb.symm.trans w)
      rcases hx with hx | hx
      · exact w2 hx.1
      · exact cA_ne hx.2.2.1 hz (Ne.symm h17) rfl
  have nw : ∀ {z k : Nat}, z ∉ cL S → cA T z k → k ≠ 12 → k ≠ 17 → vtg S T ρ dp hl τl τh z = τh := by
    intro z k h0 hz h12 h17
    unfold vtg
    rw [if_neg h0, if_neg (nL hz h12 h17)]
  refine ⟨⟨sub_wk s (fun _ _ z => z.elim), fun a ha _ => o a ha⟩, hl, m, hs, g, hm, n4, nw n1 g.1 (by decide) (by decide), fun z hz => ?_, fun y hy => ?_⟩
  · unfold vtg
    rw [if_neg (n2 z hz), if_pos hz]
  · obtain ⟨i, hi⟩ := List.getElem?_of_mem hy
    obtain ⟨n, hn⟩ := get_ex (l := ids) (k := i) (by have := get_lt hi; have := (vw_len g).1; omega)
    obtain ⟨-, -, -, r, ho⟩ := g.2.2.2.2 i y n hi hn
    obtain ⟨k1, k2⟩ := n3 i y hi
    refine ⟨nw k1 ho.1 (by decide) (by decide), fun r2 hr2 => ?_⟩
    obtain rfl : r = r2 := Option.some.inj (ho.2.2.1.symm.trans hr2)
    exact nw (k2 _ hr2) ho.2.2.2.1 (by decide) (by decide)
end IX
