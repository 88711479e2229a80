/-! a flush -/
section LU6
variable {S V T U : cS} {dp x k cd dd made dn made' : Nat} {ar : Nat → Nat} {sl sl' : Nat → List Nat} {BL : List Nat} {ix : Vw} {mg : Option (Vw × Nat)} {cm pr : Option Vw} {sn : List (Nat × Vw)} {o1 o2 : Option (Nat × Vw)} {op fi w : Nat} {cc : Option Nat} {off ad : Bool} {H : List (Nat × Nat)} {sk tk : Nat} {R : List (Nat × Nat)}
theorem lOf_up {c fl : Nat} {v : Vw} (hm : made ≤ made') (he : ∀ n, n < made → sl' n = sl n) (g : lOf S c made sl fl v) : lOf S c made' sl' fl v := ⟨g.1, g.2.1, fun hf => by
  obtain ⟨a1, a2, a3, a4, a5⟩ := g.2.2 hf
  refine ⟨a1, a2, a3, fun k n hn => ⟨(a4 k n hn).1, by have := (a4 k n hn).2; omega⟩, fun n hn => ?_⟩
  obtain ⟨i, hi⟩ := List.mem_iff_getElem?.mp hn
  rw [he n (a4 i n hi).2]
  exact a5 n hn⟩
theorem tk_app {l : List Nat} {a p : Nat} (h : p + 3 ≤ l.length) : ((l ++ [a]).drop p).take 3 = (l.drop p).take 3 := by
  rw [List.drop_append_of_le_length (by omega), List.take_append_of_le_length (by rw [List.length_drop]; omega)]
theorem mg_ids {ids : List Nat} {s : Vw} {p n : Nat} (h : s.1 = (ids.drop p).take 3) (hn : n ∈ s.1) : n ∈ ids := List.mem_of_mem_drop (List.mem_of_mem_take (h ▸ hn))
theorem mg_up (hix : ∀ n, n ∈ ix.1 → n < made) (he : ∀ n, n < made → sl' n = sl n) (a : Nat) (g : lMg6 S (ar 13) (ar 15) sl ix.1 mg) : lMg6 S (ar 13) (ar 15) sl' (ix.1 ++ [a]) mg := ⟨g.1, fun s c e => by
  obtain ⟨⟨p, e1, e2, e3⟩, e4, e5, e6, e7, e8⟩ := g.2 s c e
  have em : mtL (sgR sl') s.2 s.1 = mtL (sgR sl) s.2 s.1 := mtL_ext (fun n hn => by
    unfold sgR
    rw [he n (hix n (mg_ids e3 hn))])
  rw [em]
  exact ⟨⟨p, e1, by rw [List.length_append]; omega, by rw [tk_app e2]; exact e3⟩, e4, e5, e6, e7, e8⟩⟩
theorem nm_in {s : Vw} (h : vwM made s) : made ∉ s.1 := fun c => Nat.lt_irrefl _ (h made c)
theorem I6_flush (g : I6 S ar dn made sl BL ix mg cm pr o1 o2 op fi w cc false H sk tk R) (hM : ixM made ix mg cm pr sn) (nd : ix.1.Nodup) (hB : BL ≠ []) (hmd : made < 27) (h : lFs S U ar dn made ix.1.length BL.length w cc) : I6 U ar (dn + BL.length) (made + 1) (upR sl made BL) [] (ix.1 ++ [made], lvF made ix.2) mg cm pr o1 o2 op fi (w + (BL.length + 1)) (cc.map (fun k => k - (BL.length + 1))) false H sk tk R := by
  obtain ⟨g1, g2, g3, g4, g5, g6, ⟨g7, g8, g9, g10⟩, g11, g12, g13⟩ := g
  obtain ⟨wU, oU, ⟨m0, m1, m2, m3, m4, m5⟩, r1, r2, ⟨s1, s2⟩, ⟨z1, z2⟩, ⟨v1, v2⟩, ⟨w1, w2⟩, x1, x2⟩ := h
  have gU := lR_w wU g1
  have sgo : ∀ n, n < made → upR sl made BL n = sl n := fun n hn => upR_n (by omega)
  have sB : upR sl made BL made = BL := upR_s
  have h0 : 0 < BL.length := List.length_pos_iff.mpr hB
  have ncm : made ∉ ovL cm := by
    cases cm with
    | none => exact List.not_mem_nil
    | some s => exact nm_in (hM.2.2.1 s rfl)
  have npr : ∀ s, pr = some s → made ∉ s.1 := fun s e => nm_in (hM.2.2.2.1 s e)
  have idl := nd_lt nd (N := made) hM.1
  have hb10 := g4.2.1
  have hdn := g3.1.2
  refine ⟨gU, ⟨⟨gU.1 0 (by decide), gU.1 2 (by decide), gU.1 3 (by decide)⟩, ⟨by omega, by omega⟩, fun n hn => ?_⟩, ⟨⟨m0, by show dn + BL.length + 0 ≤ 60; omega⟩, ⟨m2, by omega⟩, fun n hn a ha => ?_, fun a ha => absurd ha List.not_mem_nil⟩, ⟨m1, Nat.zero_le _, fun i a hi => absurd (get_lt hi) (Nat.not_lt_zero i)⟩, ⟨⟨by rw [List.length_append]; exact m3, by rw [List.length_append]; show ix.1.length + 1 ≤ 27; omega⟩, fun i n hi => ?_, fun n hn => ?_⟩, mg_up hM.1 sgo made (mg_w g1 wU rfl oU rfl g6), ⟨lOf_up (by omega) sgo (of_w 7 (by decide) ⟨rfl, rfl⟩ g1 wU rfl g7), lOf_up (by omega) sgo (of_w 8 (by decide) ⟨rfl, rfl⟩ g1 wU rfl g8), lOf_up (by omega) sgo (of_w 9 (by decide) ⟨rfl, rfl⟩ g1 wU rfl g9), lOf_up (by omega) sgo (of_w 10 (by decide) ⟨rfl, rfl⟩ g1 wU rfl g10)⟩, ⟨fun n hn => ?_, fun p e => ⟨fun n hn => ?_, fun n hn hnp => ?_⟩⟩, ⟨m4, fun _ => m5, (oU 6 (by decide)).trans g12.2.2.1, (oU 7 (by decide)).trans g12.2.2.2.1, (oU 8 (by decide)).trans g12.2.2.2.2⟩, fi_w g1 wU rfl oU rfl g13⟩
  · rcases Nat.lt_or_ge n made with c | c
    · obtain ⟨a1, a2, y, a3, a4, a5⟩ := g2.2.2 n c
      rw [sgo n c]
      refine ⟨(z1 n (by simp; omega)).trans a1, a2, y, a3, (s1 n (by simp; omega)).trans a4, fun j a hj => ?_⟩
      obtain ⟨b1, b2, b3⟩ := a5 j a hj
      exact ⟨by omega, (r2 _ b1).trans b2, b3⟩
    · obtain rfl : n = made := by omega
      rw [sB]
      have f64 : ∀ j, j < BL.length → dn + j < 64 := fun j hj => by omega
      refine ⟨z2, hb10, pk6 (fun j => dn + j) BL.length, ?_, s2, fun j a hj => ?_⟩
      · have h1 := pk6_lt (f := fun j => dn + j) f64
        have h2 : 64 ^ BL.length ≤ 64 ^ 10 := Nat.pow_le_pow_right (by decide) hb10
        exact Nat.lt_of_lt_of_le h1 h2
      · have hjl := get_lt hj
        rw [pk6_at (f := fun j => dn + j) f64 hjl]
        obtain ⟨b1, b2⟩ := g4.2.2 j a hj
        exact ⟨by omega, (r1 j hjl).trans b1, b2⟩
  · rcases Nat.lt_or_ge n made with c | c
    · rw [sgo n c] at ha
      exact g3.2.2.1 n c a ha
    · obtain rfl : n = made := by omega
      rw [sB] at ha
      exact g3.2.2.2 a ha
  · rcases Nat.lt_or_ge i ix.1.length with c | c
    · rw [List.getElem?_append_left c] at hi
      rw [x1 i (by simp; omega)]
      exact ⟨(g5.2.1 i n hi).1, by have := (g5.2.1 i n hi).2; omega⟩
    · have hi' := get_lt hi
      rw [List.length_append] at hi'
      obtain rfl : i = ix.1.length := by have : i < ix.1.length + 1 := hi'; omega
      rw [List.getElem?_concat_length] at hi
      cases hi
      exact ⟨x2, by omega⟩
  · rcases List.mem_append.mp hn with c | c
    · have hlt := hM.1 n c
      rw [v1 n (by simp; omega), sgo n hlt, g5.2.2 n c]
      congr 1
      refine bN_ext (fun j hj => ?_)
      show _ = if n = made then true else ix.2 n j
      rw [if_neg (by omega)]
    · obtain rfl := List.mem_singleton.mp c
      rw [v2, sB]
      congr 1
      refine bN_ext (fun j hj => ?_)
      show _ = if n = n then true else ix.2 n j
      rw [if_pos rfl]
  · rcases List.mem_append.mp hn with c | c
    · have hlt := hM.1 n c
      rw [w1 n (by simp; omega), sgo n hlt]
      exact g11.1 n c
    · obtain rfl := List.mem_singleton.mp c
      rw [w2, sB]
      congr 1
      refine bN_ext (fun j hj => ?_)
      have hw : wbs cm n j = true := by unfold wbs; rw [if_neg ncm]
      unfold wrF
      cases pr with
      | none => exact hw.symm
      | some p =>
        show true = if n ∈ p.1 then p.2 n j else wbs cm n j
        rw [if_neg (npr p rfl)]
        exact hw.symm
  · rw [lwI g1 wU 14 rfl, sgo n (hM.2.2.2.1 p e n hn)]
    exact (g11.2 p e).1 n hn
  · rcases List.mem_append.mp hn with c | c
    · exact (g11.2 p e).2 n c hnp
    · rw [List.mem_singleton.mp c]; exact ncm
theorem ixM_flush (hM : ixM made ix mg cm pr sn) : ixM (made + 1) (ix.1 ++ [made], lvF made ix.2) mg cm pr sn := by
  have lift : ∀ {s : Vw}, vwM made s → vwM (made + 1) s := fun h n hn => by have := h n hn; omega
  refine ⟨fun n hn => ?_, fun s e => lift (hM.2.1 s e), fun s e => lift (hM.2.2.1 s e), fun s e => lift (hM.2.2.2.1 s e), fun s hs => lift (hM.2.2.2.2 s hs)⟩
  rcases List.mem_append.mp hn with c | c
  · have := hM.1 n c; omega
  · rw [List.mem_singleton.mp c]; omega
theorem pI_flush (h : pI k WL6 l6 ad (sgR sl) made (BL.map dcR) ix mg cm pr sn (slO o1 o2) op cc false) (hM : ixM made ix mg cm pr sn) (hB : BL ≠ []) (h200 : made < 200) : pI (k + 1) WL6 l6 ad (sgR (upR sl made BL)) (made + 1) (([] : List Nat).map dcR) (ix.1 ++ [made], lvF made ix.2) mg cm pr sn (slO o1 o2) op (cc.map (fun k => k - (BL.length + 1))) false := by
  obtain ⟨⟨p1, p2, p3, p4, p5⟩, p6, p7, ⟨p8, p8b, p8c, p8d⟩, p9, p10, p11, p12, p13, p14⟩ := h
  have hB' : BL.map dcR ≠ [] := fun e => hB (List.map_eq_nil_iff.mp e)
  obtain ⟨d, B, eB⟩ := List.exists_cons_of_ne_nil hB'
  have e0 : flS made (sgR sl) (BL.map dcR) ix 0 cc = (made + 1, upR (sgR sl) made (BL.map dcR), (ix.1 ++ [made], lvF made ix.2), 0 + ((BL.map dcR).length + 1), cc.map (fun k => k - ((BL.map dcR).length + 1))) := by
    rw [eB]
    rfl
  obtain ⟨q1, q2, q3, q4, q5, q6, q7, q8⟩ := flS_ok e0 hM.1 p1 p6 (Or.inl h200) (by omega)
  rw [sgR_up]
  have vx : ∀ {s : Vw}, vwM made s → vG (sgR sl) s → vG (upR (sgR sl) made (BL.map dcR)) s := fun h q => vG_ext (fun n hn => q2 n (h n hn)) q
  refine ⟨⟨q4, fun s c e => vx (hM.2.1 s (by rw [e]; rfl)) (p2 s c e), fun s e => vx (hM.2.2.1 s e) (p3 s e), fun s e => vx (hM.2.2.2.1 s e) (p4 s e), fun s hs => vx (hM.2.2.2.2 s hs) (p5 s hs)⟩, ⟨fun i i' d d' hi => absurd (get_lt hi) (Nat.not_lt_zero i), fun d hd => absurd hd List.not_mem_nil⟩, fun s c e => ?_, ⟨p8, p8b, p8c, by omega⟩, fun w => absurd w (by decide), cc_map p10, fun z => absurd (p11 z).1 hB', ⟨fun n hn d hd => ?_, fun d hd => absurd hd List.not_mem_nil⟩, p13, by omega, ?_⟩
  · obtain ⟨p, r1, r2, r3, r4, r5⟩ := p7 s c e
    refine ⟨p, by rw [List.length_append]; omega, r2, fun a n hn => q7 _ _ (r3 a n hn), ?_, by omega⟩
    rw [mtL_ext (fun n hn => q2 n (hM.2.1 s (by rw [e]; rfl) n hn))]
    exact r4
  · rcases q5 n hn d hd with c | ⟨n', c1, c2⟩
    · exact p12.2 d c
    · exact p12.1 n' c1 d c2
  · show smN _ (made + 1) + 0 + mgC mg ≤ k + 1
    rw [q6]
    have := p14.2
    omega
end LU6
