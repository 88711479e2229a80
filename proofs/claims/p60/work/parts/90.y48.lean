/-! the class: what the machine refuses -/
section XR
variable {S T : cS} {ρ ρ' : Nat → Nat} {dp x made : Nat} {so : Nat → Nat} {sd : Nat → List Nat} {sg : Nat → List Dc} {B : List Dc} {ix : Vw} {mg : Option (Vw × Nat)} {cm pr : Option Vw} {sn : List (Nat × Vw)} {op fi w : Nat} {cc : Option Nat} {off : Bool} {Q : cS → Prop} {mc ms : Nat}
theorem g_up {E : String} {P : cS → Prop} (g : gIx S ρ dp x so sd sg made B ix mg cm pr sn op fi w cc off) (hm : 1 ≤ mc) (hs : 6 ≤ ms) (hE : E = "java/lang/IllegalStateException") (h : Q S) (h2 : off = false → P S) : (((0 ≤ mc ∧ 0 ≤ ms) ∧ k_X11_checkUp P dp x S) ∨ (∃ mc1 ms2 : Nat, (0 + mc1 ≤ mc ∧ 0 + ms2 ≤ ms) ∧ kx_X11_checkUp E Q dp mc1 ms2 x S)) := by
  obtain ⟨⟨hx, hρ, hdp⟩, gs, gb, ⟨V, e355, gv⟩, ⟨go, e357⟩, gc, gp, gl, i361, i366, i367, i368, i369, i370⟩ := g
  subst hE
  cases off with
  | true => exact Or.inr ⟨mc, ms, ⟨by omega, by omega⟩, x_checkUp hx i370 hm hs h⟩
  | false => exact Or.inl ⟨⟨by omega, by omega⟩, q_checkUp hx i370 (h2 rfl)⟩
theorem x_flush (g : gIx S ρ dp x so sd sg made B ix mg cm pr sn op fi w cc off) (h0 : off = true ∨ 200 ≤ made) (hmd : made < 1000) (hm : 1 ≤ mc) (hs : 6 ≤ ms) (h : Q S) : kx_X11_flush "java/lang/IllegalStateException" Q dp mc ms x S := by
  have hx := g.1.1
  have i366 := g.2.2.2.2.2.2.2.2.2.1
  unfold kx_X11_flush
  refine ⟨hx, g_up g hm hs rfl h (fun e => ⟨hx, fun c => ?_, fun _ => ⟨rfl, ⟨by omega, by omega⟩, h⟩⟩)⟩
  rw [i366] at c
  have c : made < 200 := (nI_ltI (by omega) (by decide)).mp c
  rcases h0 with q | q
  · rw [e] at q; exact absurd q (by decide)
  · omega
theorem x_due (g : gIx S ρ dp x so sd sg made B ix mg cm pr sn op fi w cc true) (hm : 1 ≤ mc) (hs : 6 ≤ ms) (h : Q S) : kx_X11_due "java/lang/IllegalStateException" Q dp mc ms x S := by
  unfold kx_X11_due
  exact ⟨g.1.1, g_up g hm hs rfl h (fun e => absurd e (by decide))⟩
theorem x_merge (g : gIx S ρ dp x so sd sg made B ix mg cm pr sn op fi w cc off) (h0 : off = true ∨ (∀ k, ¬ dueI sg ix.1 k) ∨ mg ≠ none ∨ 200 ≤ made) (hmd : made < 1000) (hm : 1 ≤ mc) (hs : 6 ≤ ms) (h : Q S) : kx_X11_merge "java/lang/IllegalStateException" Q dp mc ms x S := by
  obtain ⟨⟨hx, hρ, hdp⟩, gs, gb, ⟨V, e355, gv⟩, ⟨go, e357⟩, gc, gp, gl, i361, i366, i367, i368, i369, i370⟩ := id g
  obtain ⟨hl, vm, hs', gx⟩ := id gv
  have bd : (0 + 1 ≤ mc ∧ 0 + 6 ≤ ms) := ⟨by omega, by omega⟩
  unfold kx_X11_merge
  refine ⟨hx, g_up g hm hs rfl h (fun e => ⟨hx, V, e355, gx.1.1, ⟨by omega, by omega⟩, q_vdue gx.1 (fun k hk _ => ⟨fun _ => ⟨rfl, bd, h⟩, fun _ => ⟨hx, fun em => ⟨hx, fun c => ?_, fun _ => ⟨rfl, bd, h⟩⟩, fun b hb => ⟨rfl, bd, h⟩⟩⟩) (fun _ => ⟨fun _ => ⟨rfl, bd, h⟩, fun c => absurd rfl c⟩)⟩)⟩
  rw [i366] at c
  have c : made < 200 := (nI_ltI (by omega) (by decide)).mp c
  rcases h0 with q | q | q | q
  · rw [e] at q; exact absurd q (by decide)
  · exact absurd hk (q k)
  · rw [em] at go
    cases mg with
    | none => exact absurd rfl q
    | some m => exact absurd go id
  · omega
theorem ov_nn {o : Option Nat} {v : Option Vw} (g : gOv S ρ dp so sd sg o v) (h : v = none) : o = none := ov_none (h ▸ g)
theorem x_step (g : gIx S ρ dp x so sd sg made B ix mg cm pr sn op fi w cc off) (h0 : off = true ∨ mg = none) (hm : 1 ≤ mc) (hs : 6 ≤ ms) (h : Q S) : kx_X11_step "java/lang/IllegalStateException" Q dp mc ms x S := by
  obtain ⟨⟨hx, hρ, hdp⟩, gs, gb, gv, ⟨go, e357⟩, -⟩ := id g
  unfold kx_X11_step
  refine ⟨hx, g_up g hm hs rfl h (fun e => ⟨hx, fun _ => ⟨rfl, ⟨by omega, by omega⟩, h⟩, fun b hb => ?_⟩)⟩
  rcases h0 with q | q
  · rw [e] at q; exact absurd q (by decide)
  · rw [ov_nn go (by rw [q]; rfl)] at hb; exact absurd hb (by simp)
theorem x_giveUp (g : gIx S ρ dp x so sd sg made B ix mg cm pr sn op fi w cc off) (h0 : off = true ∨ mg = none) (hm : 1 ≤ mc) (hs : 6 ≤ ms) (h : Q S) : kx_X11_giveUp "java/lang/IllegalStateException" Q dp mc ms x S := by
  obtain ⟨⟨hx, hρ, hdp⟩, gs, gb, gv, ⟨go, e357⟩, -⟩ := id g
  unfold kx_X11_giveUp
  refine ⟨hx, g_up g hm hs rfl h (fun e => ⟨hx, fun _ => ⟨rfl, ⟨by omega, by omega⟩, h⟩, fun b hb => ?_⟩)⟩
  rcases h0 with q | q
  · rw [e] at q; exact absurd q (by decide)
  · rw [ov_nn go (by rw [q]; rfl)] at hb; exact absurd hb (by simp)
theorem x_finish (g : gIx S ρ dp x so sd sg made B ix mg cm pr sn op fi w cc off) (h0 : off = true ∨ pr = none) (hm : 1 ≤ mc) (hs : 6 ≤ ms) (h : Q S) : kx_X11_finish "java/lang/IllegalStateException" Q dp mc ms x S := by
  obtain ⟨⟨hx, hρ, hdp⟩, gs, gb, gv, ⟨go, e357⟩, gc, gp, -⟩ := id g
  unfold kx_X11_finish
  refine ⟨hx, g_up g hm hs rfl h (fun e => ⟨hx, fun _ => ⟨rfl, ⟨by omega, by omega⟩, h⟩, fun b hb => ?_⟩)⟩
  rcases h0 with q | q
  · rw [e] at q; exact absurd q (by decide)
  · rw [ov_nn gp q] at hb; exact absurd hb (by simp)
theorem x_drop (g : gIx S ρ dp x so sd sg made B ix mg cm pr sn op fi w cc off) (h0 : off = true ∨ pr = none) (hm : 1 ≤ mc) (hs : 6 ≤ ms) (h : Q S) : kx_X11_drop "java/lang/IllegalStateException" Q dp mc ms x S := by
  obtain ⟨⟨hx, hρ, hdp⟩, gs, gb, gv, ⟨go, e357⟩, gc, gp, -⟩ := id g
  unfold kx_X11_drop
  refine ⟨hx, g_up g hm hs rfl h (fun e => ⟨hx, fun _ => ⟨rfl, ⟨by omega, by omega⟩, h⟩, fun b hb => ?_⟩)⟩
  rcases h0 with q | q
  · rw [e] at q; exact absurd q (by decide)
  · rw [ov_nn gp q] at hb; exact absurd hb (by simp)
theorem x_prepare (g : gIx S ρ dp x so sd sg made B ix mg cm pr sn op fi w cc off) (h0 : off = true ∨ pr ≠ none ∨ (200 ≤ made ∧ B ≠ [])) (hmd : made < 1000) (hm : 1 ≤ mc) (hs : 6 ≤ ms) (h : Q S) : kx_X11_prepare "java/lang/IllegalStateException" Q dp mc ms x S := by
  obtain ⟨⟨hx, hρ, hdp⟩, gs, ⟨b, bs, bm, b1, b2, b3, b4, b5, b6, b7⟩, gv, ⟨go, e357⟩, gc, gp, gl, i361, i366, i367, i368, i369, i370⟩ := id g
  have bd : (0 + 1 ≤ mc ∧ 0 + 6 ≤ ms) := ⟨by omega, by omega⟩
  unfold kx_X11_prepare
  refine ⟨hx, g_up g hm hs rfl h (fun e => ⟨hx, fun ep => ?_, fun _ _ => ⟨rfl, bd, h⟩⟩)⟩
  have h1 : 200 ≤ made ∧ B ≠ [] := by
    rcases h0 with q | q | q
    · rw [e] at q; exact absurd q (by decide)
    · rw [ep] at gp
      cases pr with
      | none => exact absurd rfl q
      | some m => exact absurd gp id
    · exact q
  refine ⟨hx, fun c => ?_, fun _ => ⟨hx, b, b1, b2.1, ⟨by omega, by omega⟩, q_lempty b2 (w_bn (bs.length == 0) (fun c => ?_) (fun _ => ⟨rfl, bd, h⟩))⟩⟩
  · rw [i366] at c
    have c : made < 200 := (nI_ltI (by omega) (by decide)).mp c
    omega
  · have : bs.length = 0 := beq_iff_eq.mp c
    exact absurd (List.eq_nil_of_length_eq_zero (by omega)) h1.2
theorem x_crashIA {y : Int32} (h0 : ∀ k, k ≤ 1000 → y ≠ nI k) (hm : 1 ≤ mc) (hs : 6 ≤ ms) (h : Q S) : kx_X11_crashAt "java/lang/IllegalArgumentException" Q dp mc ms x y S := by
  unfold kx_X11_crashAt
  refine ⟨fun _ => ⟨rfl, ⟨by omega, by omega⟩, h⟩, fun c => ⟨fun c2 => ?_, fun _ => ⟨rfl, ⟨by omega, by omega⟩, h⟩⟩⟩
  obtain ⟨k, hk, rfl⟩ := nI_of c
  exact absurd rfl (h0 k ((nI_leI hk (by decide)).mp c2))
theorem x_crashIS {k : Nat} (g : gIx S ρ dp x so sd sg made B ix mg cm pr sn op fi w cc true) (hk : k ≤ 1000) (hm : 1 ≤ mc) (hs : 6 ≤ ms) (h : Q S) : kx_X11_crashAt "java/lang/IllegalStateException" Q dp mc ms x (nI k) S := by
  unfold kx_X11_crashAt
  refine ⟨fun c => absurd c (nI_pos (by omega)), fun _ => ⟨fun _ => ⟨g.1.1, g_up g hm hs rfl h (fun e => absurd e (by decide))⟩, fun c => absurd ((nI_leI (by omega) (by decide)).mpr hk) c⟩⟩
theorem x_open (g : gIx S ρ dp x so sd sg made B ix mg cm pr sn op fi w cc false) (hm : 1 ≤ mc) (hs : 6 ≤ ms) (h : Q S) : kx_X11_open "java/lang/IllegalStateException" Q dp mc ms x S := by
  have i370 := g.2.2.2.2.2.2.2.2.2.2.2.2.2
  unfold kx_X11_open
  refine ⟨g.1.1, fun c => absurd i370 c, fun _ => ⟨rfl, ⟨by omega, by omega⟩, h⟩⟩
theorem x_files (g : gIx S ρ dp x so sd sg made B ix mg cm pr sn op fi w cc true) (hm : 1 ≤ mc) (hs : 6 ≤ ms) (h : Q S) : kx_X11_files "java/lang/IllegalStateException" Q dp mc ms x S := by
  unfold kx_X11_files
  exact ⟨g.1.1, g_up g hm hs rfl h (fun e => absurd e (by decide))⟩
theorem x_segments (g : gIx S ρ dp x so sd sg made B ix mg cm pr sn op fi w cc true) (hm : 1 ≤ mc) (hs : 6 ≤ ms) (h : Q S) : kx_X11_segments "java/lang/IllegalStateException" Q dp mc ms x S := by
  unfold kx_X11_segments
  exact ⟨g.1.1, g_up g hm hs rfl h (fun e => absurd e (by decide))⟩
theorem x_look {b : Int32} (g : gIx S ρ dp x so sd sg made B ix mg cm pr sn op fi w cc off) (h0 : off = true ∨ 5 ≤ sn.length) (hm : 1 ≤ mc) (hs : 6 ≤ ms) (h : Q S) : kx_X11_look "java/lang/IllegalStateException" Q dp mc ms x b S := by
  obtain ⟨⟨hx, hρ, hdp⟩, gs, gb, gv, ⟨go, e357⟩, gc, gp, ⟨l, ⟨sl, sm, e360, gl1, gl2, gl3⟩, gl4⟩, ii⟩ := id g
  have hll := parL_len gl4
  have hl8 : l.length < 8000 := by have := gl1.2.2.1; have := gl1.2.2.2.1; omega
  unfold kx_X11_look
  refine ⟨hx, g_up g hm hs rfl h (fun e => ⟨hx, sl, e360, gl1.1, ⟨by omega, by omega⟩, q_lsize gl1 (pk_lt l.length 5 (fun z => ?_) (fun _ => ⟨rfl, ⟨by omega, by omega⟩, h⟩))⟩)⟩
  rcases h0 with q | q
  · rw [e] at q; exact absurd q (by decide)
  · omega
theorem x_documents {y : Int32} (g : gIx S ρ dp x so sd sg made B ix mg cm pr sn op fi w cc off) (hno : ∀ s, s ∈ sn → nI s.1 ≠ y) (hm : 1 ≤ mc) (hs : 6 ≤ ms) (h : Q S) : kx_X11_documents "java/lang/IndexOutOfBoundsException" Q dp mc ms x y S := by
  unfold kx_X11_documents
  exact ⟨g.1.1, Or.inr ⟨mc, ms, ⟨by omega, by omega⟩, x_snapOf g hno hm hs h⟩⟩
theorem x_shut {y : Int32} (g : gIx S ρ dp x so sd sg made B ix mg cm pr sn op fi w cc off) (hno : ∀ s, s ∈ sn → nI s.1 ≠ y) (hm : 1 ≤ mc) (hs : 6 ≤ ms) (h : Q S) : kx_X11_shut "java/lang/IndexOutOfBoundsException" Q dp mc ms x y S := by
  unfold kx_X11_shut
  exact ⟨g.1.1, Or.inr ⟨mc, ms, ⟨by omega, by omega⟩, x_snapOf g hno hm hs h⟩⟩
/-- delete and add -/
theorem g_delete {Q : Int32 → cS → Prop} {k : Nat} (g : gIx S ρ dp x so sd sg made B ix mg cm pr sn op fi w cc false) (hM : ixM made ix mg cm pr sn) (hnd : ix.1.Nodup) (hk : k < 100) (h : ∀ T ρ' B' lv' b, evI S T ρ ρ' x → dkR sg ix.1 (nI k) B ix.2 B' lv' b → gIx T ρ' dp x so sd sg made B' (ix.1, lv') mg cm pr sn op fi w cc false → Q (bI b) T) : k_X11_delete Q dp x (nI k) S := by
  obtain ⟨⟨hx, hρ, hdp⟩, gs, gb, ⟨V, e355, gv⟩, ⟨go, e357⟩, gc, gp, gl, i361, i366, i367, i368, i369, i370⟩ := id g
  unfold k_X11_delete
  refine q_checkKey hk ⟨hx, q_checkUp hx i370 ⟨hx, g_dropKey1 hx hρ gb e355 gs gv hM.1 hnd (fun T ρ' B' lv' b f gB gV rel => ⟨⟨b, rfl⟩, ?_⟩)⟩⟩
  have nx : ρ x ∉ [7, 10] := by rw [hρ]; decide
  have r : ∀ q, cr T q x = cr S q x := fun q => fr_cr f hx nx
  have i : ∀ q, ci T q x = ci S q x := fun q => fr_ci f hx nx
  have gsT := gSegs_fr (fr_fk f (by decide)) (by decide) gs
  have hx' : ρ' x = 1 := fr_tg f hx.1 hρ (by decide)
  refine h T ρ' B' lv' b ⟨fr_up f rfl, fun q _ => r q, hx'⟩ rel ⟨⟨fr_A f hx, hx', dp_O⟩, gsT, gB, ⟨V, (r _).trans e355, gV⟩, ⟨?_, (i _).trans e357⟩, ?_, ?_, gSs_fr f (by decide) (by decide) (r _) gsT hM.2.2.2.2 gl, (i _).trans i361, (i _).trans i366, (i _).trans i367, (i _).trans i368, (i _).trans i369, (i _).trans i370⟩
  · rw [r]; exact gOv_fr f (by decide) gsT hM.2.1 go
  · rw [r]; exact gOv_fr f (by decide) gsT hM.2.2.1 gc
  · rw [r]; exact gOv_fr f (by decide) gsT hM.2.2.2.1 gp
theorem x_deleteK {y : Int32} (hk : ∀ k, k < 100 → y ≠ nI k) (hm : 1 ≤ mc) (hs : 6 ≤ ms) (h : Q S) : kx_X11_delete "java/lang/IndexOutOfBoundsException" Q dp mc ms x y S := by
  unfold kx_X11_delete
  exact Or.inr ⟨mc, ms, ⟨by omega, by omega⟩, x_checkKey hk hm hs h⟩
theorem x_deleteS {k : Nat} (g : gIx S ρ dp x so sd sg made B ix mg cm pr sn op fi w cc true) (hk : k < 100) (hm : 1 ≤ mc) (hs : 6 ≤ ms) (h : Q S) : kx_X11_delete "java/lang/IllegalStateException" Q dp mc ms x (nI k) S := by
  unfold kx_X11_delete
  exact Or.inl ⟨⟨by omega, by omega⟩, q_checkKey hk ⟨g.1.1, g_up g hm hs rfl h (fun e => absurd e (by decide))⟩⟩
theorem x_addK {y : Int32} (hk : ∀ k, k < 100 → y ≠ nI k) (hm : 1 ≤ mc) (hs : 6 ≤ ms) (h : Q S) : kx_X11_add "java/lang/IndexOutOfBoundsException" Q dp mc ms x y S := by
  unfold kx_X11_add
  exact Or.inr ⟨mc, ms, ⟨by omega, by omega⟩, x_checkKey hk hm hs h⟩
theorem x_addS {k : Nat} (g : gIx S ρ dp x so sd sg made B ix mg cm pr sn op fi w cc off) (h0 : off = true ∨ (B.length = 12 ∧ ∀ d, d ∈ B → dK d ≠ k)) (hB : ∀ d, d ∈ B → dK d < 100) (hk : k < 100) (hm : 1 ≤ mc) (hs : 6 ≤ ms) (h : Q S) : kx_X11_add "java/lang/IllegalStateException" Q dp mc ms x (nI k) S := by
  obtain ⟨⟨hx, hρ, hdp⟩, gs, gb, -⟩ := id g
  obtain ⟨b, bs, bm, b1, b2, b3, b4, b5, b6, b7⟩ := id gb
  unfold kx_X11_add
  refine Or.inl ⟨⟨by omega, by omega⟩, q_checkKey hk ⟨hx, g_up g hm hs rfl h (fun e => ⟨hx, b, b1, b2.1, ⟨by omega, by omega⟩, q_lsize b2 ?_⟩)⟩⟩
  have h1 : B.length = 12 ∧ ∀ d, d ∈ B → dK d ≠ k := by
    rcases h0 with q | q
    · rw [e] at q; exact absurd q (by decide)
    · exact q
  refine pk_lt bs.length 12 (fun z => by omega) (fun _ => ⟨hx, ⟨by omega, by omega⟩, q_bufPlace hx gb (fun i d hd hk' _ => ?_) (fun _ => ⟨fun c => absurd rfl c, fun _ => ⟨rfl, ⟨by omega, by omega⟩, h⟩⟩)⟩)
  have hin := List.mem_of_getElem? hd
  have := hB d hin
  exact absurd ((nI_eq (by omega) (by omega)).mp hk') (h1.2 d hin)
theorem g_add {Q : Int32 → cS → Prop} {k : Nat} (g : gIx S ρ dp x so sd sg made B ix mg cm pr sn op fi w cc false) (hk : k < 100) (h0 : B.length < 12 ∨ ∃ d, d ∈ B ∧ nI (dK d) = nI k) (h : k_X11_add_39 Q dp mc ms x (nI k) 0 0 S) : k_X11_add Q dp mc ms x (nI k) S := by
  obtain ⟨⟨hx, hρ, hdp⟩, gs, gb, gv, ⟨go, e357⟩, gc, gp, gl, i361, i366, i367, i368, i369, i370⟩ := id g
  obtain ⟨b, bs, bm, b1, b2, b3, b4, b5, b6, b7⟩ := id gb
  unfold k_X11_add
  refine ⟨⟨by omega, by omega⟩, q_checkKey hk ⟨hx, ⟨by omega, by omega⟩, q_checkUp hx i370 ⟨hx, b, b1, b2.1, ⟨by omega, by omega⟩, q_lsize b2 (pk_lt bs.length 12 (fun _ => h) (fun z => ⟨hx, ⟨by omega, by omega⟩, q_bufPlace hx gb (fun i d hd hk' _ => ⟨fun _ => h, fun c => ?_⟩) (fun hno => ?_)⟩))⟩⟩⟩
  · have := nI_pos (n := i) (by have := get_lt hd; omega)
    rw [c] at this
    exact absurd (by decide) this
  · rcases h0 with q | ⟨d, hd, e⟩
    · omega
    · exact absurd e (hno d hd)
end XR
