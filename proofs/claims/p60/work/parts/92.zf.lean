/-! the case of preparing -/
section LZG
variable {sg sg' : Nat → List Dc} {made made' k op w w' q : Nat} {B : List Dc} {ix ix' : Vw} {mg : Option (Vw × Nat)} {cm : Option Vw} {sn : List (Nat × Vw)} {slx : Nat → Option (Nat × Vw)} {cc cc' : Option Nat} {ad : Bool} {WL : List Int64} {l : LGt}
theorem pI_prep (h : pI k WL l ad sg made B ix mg cm none sn slx op cc false) (hM : ixM made ix mg cm none sn) (e : flS made sg B ix w cc = (made', sg', ix', w', cc')) (h2 : made < 200 ∨ B = []) : ixM made' ix' mg cm (some ix') sn ∧ pI k WL l ad sg' made' [] ix' mg cm (some ix') sn slx op (cc'.map (fun k => k - q)) false := by
  obtain ⟨⟨p1, p2, p3, p4, p5⟩, p6, p7, ⟨p8, p8b, p8c, p8d⟩, p9, p10, p11, p12, p13, p141, p142⟩ := h
  obtain ⟨⟨f1, f2, f3⟩, f4, f5, f6, f7, f8, f9, f10⟩ := flS_ok e hM.1 p1 p6 h2 p141
  obtain ⟨k1, k2⟩ := flS_cc e
  have lift : ∀ {s : Vw}, vwM made s → vwM made' s := fun h n hn => by have := h n hn; omega
  have vx : ∀ {s : Vw}, vwM made s → vG sg s → vG sg' s := fun h q => vG_ext (fun n hn => f4 n (h n hn)) q
  refine ⟨⟨f5, fun s e => lift (hM.2.1 s e), fun s e => lift (hM.2.2.1 s e), fun s e => by rw [← Option.some.inj e]; exact f5, fun s hs => lift (hM.2.2.2.2 s hs)⟩, ⟨⟨f6, fun s c e => vx (hM.2.1 s (by rw [e]; rfl)) (p2 s c e), fun s e => vx (hM.2.2.1 s e) (p3 s e), fun s e => by rw [← Option.some.inj e]; exact f6, fun s hs => vx (hM.2.2.2.2 s hs) (p5 s hs)⟩, ⟨fun i i' d d' hi => absurd (get_lt hi) (Nat.not_lt_zero i), fun d hd => absurd hd List.not_mem_nil⟩, fun s c e => ?_, ⟨p8, p8b, p8c, p8d⟩, fun w => absurd w (by decide), cc_map (by rw [k1]; exact cc_map p10), fun z => ⟨rfl, ?_⟩, ⟨fun n hn d hd => ?_, fun d hd => absurd hd List.not_mem_nil⟩, p13, f2, ?_⟩⟩
  · obtain ⟨p, q1, q2, q3, q4, q5⟩ := p7 s c e
    refine ⟨p, ?_, q2, fun a n hn => f9 _ n (q3 a n hn), ?_, f3 q5⟩
    · obtain ⟨z, hz⟩ := get_ex (l := ix.1) (k := p + 2) (by omega)
      have := get_lt (f9 _ z hz)
      omega
    · rw [mtL_ext (fun n hn => f4 n (hM.2.1 s (by rw [e]; rfl) n hn))]; exact q4
  · have h0 := p11 z
    have e0 := e
    rw [h0.1] at e0
    obtain ⟨hm, -⟩ := pr5 (show (made, sg, ix, w, cc) = _ from e0)
    omega
  · rcases f7 n hn d hd with h | ⟨n2, h, h3⟩
    · exact p12.2 d h
    · exact p12.1 n2 h d h3
  · show smN (fun n => (sg' n).length) made' + 0 + mgC mg ≤ k
    rw [f8]; omega
theorem cm_df {sl : Nat → List Nat} {lv wb : Nat → Nat → Bool} {ids : List Nat} : sumL (cmF (fun n => (sl n).length) lv wb) ids = dfN (sgR sl) lv wb ids := sumL_ext (fun n hn => by
  show (if bN (lv n) (sl n).length = bN (wb n) (sl n).length then 0 else 1) = if (!allB (fun j => lv n j == wb n j) (sgR sl n).length) = true then 1 else 0
  rw [sgR_len]
  have e : bN (lv n) (sl n).length = bN (wb n) (sl n).length ↔ allB (fun j => lv n j == wb n j) (sl n).length = true := by
    rw [allB_iff]
    exact ⟨fun h j hj => by rw [bN_inj h j hj]; exact beq_self_eq_true _, fun h => bN_ext (fun j hj => by simpa using h j hj)⟩
  by_cases c : bN (lv n) (sl n).length = bN (wb n) (sl n).length
  · rw [if_pos c, e.mp c]; rfl
  · rw [if_neg c]
    cases h : allB (fun j => lv n j == wb n j) (sl n).length with
    | true => exact absurd (e.mpr h) c
    | false => rfl)
end LZG
section LZH
variable {S V T W U : cS} {ρ : Nat → Nat} {dp x k cd dd made dn op fi w : Nat} {ar : Nat → Nat} {sl : Nat → List Nat} {BL : List Nat} {ix : Vw} {mg : Option (Vw × Nat)} {cm : Option Vw} {o1 o2 : Option (Nat × Vw)} {cc : Option Nat} {H : List (Nat × Nat)} {sk tk : Nat} {R : List (Nat × Nat)}
/-- the copy of what was written, then the loop -/
theorem q_comm65 {Q : Int32 → cS → Prop} {mc ms cd dd : Nat} {r : Int32} (g : lRow S ar) (hk : ∀ W, lwT S W ([14].map ar) → (∀ i, i < 30 → cI W (ar 14) i = cI S (ar 5) i) → k_L_isCommitted_91L Q dp mc ms x (ar 4) (ar 5) (ar 6) (ar 8) (ar 9) (ar 10) (ar 15) r (nI 0) cd dd W) : k_L_isCommitted_65L Q dp mc ms x (ar 4) (ar 5) (ar 6) (ar 8) (ar 9) (ar 10) (ar 15) (ar 14) r (nI 0) cd dd S := by
  unfold k_L_isCommitted_65L
  refine lfp_cnt 30 (fun i y => ∃ W, lwT S W ([14].map ar) ∧ (∀ j, j < i → cI W (ar 14) j = cI S (ar 5) j) ∧ y = (x, ar 4, ar 5, ar 6, ar 8, ar 9, ar 10, ar 15, ar 14, r, nI i, cd, dd, W)) ?_ ⟨S, lw_rf, fun j hj => absurd hj (Nat.not_lt_zero j), rfl⟩
  rintro P i _ hi ⟨W, wW, bW, rfl⟩ ih
  show k_L_isCommitted_65 Q dp mc ms _ x (ar 4) (ar 5) (ar 6) (ar 8) (ar 9) (ar 10) (ar 15) (ar 14) r (nI i) cd dd W
  have gW := lR_w wW g
  unfold k_L_isCommitted_65
  refine pk_le 30 i (fun c => ?_) (fun c => ?_)
  · obtain rfl : i = 30 := by omega
    exact hk W wW bW
  · rw [nI_x i (by omega), lwI g wW 5 rfl]
    refine ⟨lR_X gW (i := 5) (by decide) (show i < 30 from c), lR_X gW (i := 14) (by decide) (show i < 30 from c), fun S4 e4 => ?_⟩
    have w4 : lwT W S4 ([14].map ar) := e4 ▸ lw_SI (by simp)
    rintro _ rfl
    rw [nI_add]
    refine ih _ c ⟨S4, lw_tr wW w4 (fun _ z => z), fun j hj => ?_, rfl⟩
    by_cases cj : j = i
    · rw [cj, e4, cSI_s]
    · rw [e4, cSI_o cj]; exact bW j (by omega)
/-- all is written -/
theorem I6_prep (g : I6 S ar dn made sl [] ix mg cm none o1 o2 op fi w cc false H sk tk R) (hM : vwM made ix) (wV : lwT S V ([5, 8, 14, 15].map ar)) (oV : rO S V (ar 15) [4, 5]) {q : Nat} (v4 : cI V (ar 15) 4 = nI (w + q)) (v5 : cI V (ar 15) 5 = cIn (cc.map (fun k => k - q))) (w5 : ∀ n, n ∈ ix.1 → cI V (ar 5) n = nI (bN (ix.2 n) (sl n).length)) (w14 : ∀ i, i < 30 → cI V (ar 14) i = cI S (ar 5) i) (p0 : cI V (ar 8) 0 = nI 1) (p1 : cI V (ar 8) 1 = nI ix.1.length) (p2 : ∀ i, i < ix.1.length → cI V (ar 8) (2 + i) = cI S (ar 6) i) (p3 : ∀ i, i < 30 → cI V (ar 8) (32 + i) = cI S (ar 4) i) : I6 V ar dn made sl [] ix mg cm (some ix) o1 o2 op fi (w + q) (cc.map (fun k => k - q)) false H sk tk R := by
  obtain ⟨g1, g2, g3, g4, g5, g6, ⟨g7, g8, g9, g10⟩, g11, g12, g13⟩ := g
  have gV := lR_w wV g1
  have hm27 := g3.2.1.2
  refine ⟨gV, sg_w g1 wV rfl g2, sz_w oV rfl g3, bf_w g1 wV rfl oV rfl g4, ix_w g1 wV rfl oV rfl g5, mg_w g1 wV rfl oV rfl g6, ⟨of_w 7 (by decide) ⟨rfl, rfl⟩ g1 wV rfl g7, ⟨gV.1 8 (by decide), ⟨p0, show 1 < 2 ^ 30 by decide⟩, fun _ => ⟨gV.1 8 (by decide), p1, by have := g5.1.2; show ix.1.length ≤ 30; omega, fun i n hi => ⟨(p2 i (get_lt hi)).trans (g5.2.1 i n hi).1, (g5.2.1 i n hi).2⟩, fun n hn => (p3 n (by have := hM n hn; omega)).trans (g5.2.2 n hn)⟩⟩, of_w 9 (by decide) ⟨rfl, rfl⟩ g1 wV rfl g9, of_w 10 (by decide) ⟨rfl, rfl⟩ g1 wV rfl g10⟩, ⟨fun n hn => ?_, fun p e => ?_⟩, ⟨v4, fun _ => v5, (oV 6 (by decide)).trans g12.2.2.1, (oV 7 (by decide)).trans g12.2.2.2.1, (oV 8 (by decide)).trans g12.2.2.2.2⟩, fi_w g1 wV rfl oV rfl g13⟩
  · rw [w5 n hn]
    congr 1
    refine bN_ext (fun j hj => ?_)
    show _ = if n ∈ ix.1 then ix.2 n j else wbs cm n j
    rw [if_pos hn]
  · obtain rfl := Option.some.inj e
    exact ⟨fun n hn => (w14 n (by have := hM n hn; omega)).trans (g11.1 n hn), fun n hn hnn => absurd hn hnn⟩
end LZH
