/-! a merge ends: what is kept -/
section LZA
variable {sg : Nat → List Dc} {made made' k p c0 op : Nat} {B : List Dc} {ix s0 : Vw} {cm pr : Option Vw} {sn : List (Nat × Vw)} {slx : Nat → Option (Nat × Vw)} {cc cc' : Option Nat} {ad : Bool} {WL : List Int64} {l : LGt}
theorem ixM_up (h : ixM made ix (some (s0, c0)) cm pr sn) (hm : made ≤ made') {ix' : Vw} (hx : vwM made' ix') : ixM made' ix' none cm pr sn := by
  have lift : ∀ {s : Vw}, vwM made s → vwM made' s := fun h n hn => by have := h n hn; omega
  exact ⟨hx, fun w e => absurd e (by simp), fun s e => lift (h.2.2.1 s e), fun s e => lift (h.2.2.2.1 s e), fun s hs => lift (h.2.2.2.2 s hs)⟩
/-- where a document of the new index came from -/
theorem cut_pre (hp : p + 3 ≤ ix.1.length) (hM : vwM made ix) (q3 : ∀ a n, s0.1[a]? = some n → ix.1[p + a]? = some n) (hl3 : s0.1.length = 3) : ∀ n j d, n ∈ ix.1.take p ++ made :: ix.1.drop (p + 3) → (upR sg made (dcA sg (mtL sg s0.2 s0.1)) n)[j]? = some d → lvM made (mtL sg s0.2 s0.1) ix.2 n j = true → ∃ y : Nat × Nat, y.1 ∈ ix.1 ∧ (sg y.1)[y.2]? = some d ∧ ix.2 y.1 y.2 = true ∧ ((n = made ∧ (mtL sg s0.2 s0.1)[j]? = some y ∧ y.1 ∈ s0.1) ∨ (n ≠ made ∧ y = (n, j) ∧ ∃ a, (a < p ∨ p + 3 ≤ a) ∧ ix.1[a]? = some n)) := fun n j d hn hd hlv => by
  have mem := cut_mem (l := ix.1) (p := p) (made := made) (n := n) (by omega) hn
  by_cases e : n = made
  · subst e
    rw [upR_s] at hd
    obtain ⟨y, hy, ed⟩ := dcA_get hd
    obtain ⟨m1, m2, m3⟩ := mt_get hy
    have hlv' : ix.2 y.1 y.2 = true := by
      have h := hlv
      unfold lvM at h
      rw [if_pos rfl, List.getD_eq_getElem?_getD, hy] at h
      exact h
    obtain ⟨a, ha⟩ := List.mem_iff_getElem?.mp m1
    exact ⟨y, List.mem_of_getElem? (q3 a _ ha), by rw [ed]; exact m3, hlv', Or.inl ⟨rfl, hy, m1⟩⟩
  · obtain ⟨a, ha1, ha2⟩ := mem.elim (fun z => absurd z e) id
    have hin := List.mem_of_getElem? ha2
    rw [upR_n e] at hd
    have hlv' : ix.2 n j = true := by
      have h := hlv
      unfold lvM at h
      rwa [if_neg e] at h
    exact ⟨(n, j), hin, hd, hlv', Or.inr ⟨e, rfl, a, ha1, ha2⟩⟩
theorem cut_vG (hp : p + 3 ≤ ix.1.length) (hM : vwM made ix) (v : vG sg ix) (vS : vG sg s0) (q3 : ∀ a n, s0.1[a]? = some n → ix.1[p + a]? = some n) (hl3 : s0.1.length = 3) : vG (upR sg made (dcA sg (mtL sg s0.2 s0.1))) (ix.1.take p ++ made :: ix.1.drop (p + 3), lvM made (mtL sg s0.2 s0.1) ix.2) := by
  have srcI : ∀ n, n ∈ s0.1 → ∃ a, a < 3 ∧ ix.1[p + a]? = some n := fun n hn => by
    obtain ⟨a, ha⟩ := List.mem_iff_getElem?.mp hn
    exact ⟨a, by have := get_lt ha; omega, q3 a n ha⟩
  refine ⟨cut_nd (by omega) v.1 (nm_in hM), fun key n j d n' j' d' h1 h2 h3 h4 h5 h6 h7 h8 => ?_⟩
  obtain ⟨y, y1, y2, y3, y4⟩ := cut_pre hp hM q3 hl3 n j d h1 h3 h5
  obtain ⟨z, z1, z2, z3, z4⟩ := cut_pre hp hM q3 hl3 n' j' d' h2 h4 h6
  obtain ⟨e1, e2⟩ := v.2 key y.1 y.2 d z.1 z.2 d' y1 z1 y2 z2 y3 z3 h7 h8
  have yz : y = z := Prod.ext e1 e2
  subst yz
  rcases y4 with ⟨c1, c2, c3⟩ | ⟨c1, c2, a, c3, c4⟩ <;> rcases z4 with ⟨d1, d2, d3⟩ | ⟨d1, d2, a', d3, d4⟩
  · exact ⟨c1.trans d1.symm, nd_ix (mtL_nd vS.1) c2 d2⟩
  · exfalso
    obtain ⟨b, hb, hb2⟩ := srcI y.1 c3
    rw [d2] at hb2
    have := nd_ix v.1 hb2 d4
    omega
  · exfalso
    obtain ⟨b, hb, hb2⟩ := srcI y.1 d3
    rw [c2] at hb2
    have := nd_ix v.1 hb2 c4
    omega
  · have := c2.symm.trans d2
    exact ⟨congrArg Prod.fst this, congrArg Prod.snd this⟩
theorem pI_cut (h : pI k WL l ad sg made B ix (some (s0, c0)) cm pr sn slx op cc false) (hM : ixM made ix (some (s0, c0)) cm pr sn) (hp : p + 3 ≤ ix.1.length) (q3 : ∀ a n, s0.1[a]? = some n → ix.1[p + a]? = some n) (hl3 : s0.1.length = 3) (hc : c0 = (mtL sg s0.2 s0.1).length) (h200 : made ≤ 200) (hcc' : ∀ j, cc' = some j → j ≤ 1000) : pI (k + 1) WL l ad (upR sg made (dcA sg (mtL sg s0.2 s0.1))) (made + 1) B (ix.1.take p ++ made :: ix.1.drop (p + 3), lvM made (mtL sg s0.2 s0.1) ix.2) none cm pr sn slx op cc' false := by
  obtain ⟨⟨p1, p2, p3, p4, p5⟩, p6, p7, ⟨p8, p8b, p8c, p8d⟩, p9, p10, p11, p12, p13, p14, p15⟩ := h
  have sgo : ∀ n, n < made → upR sg made (dcA sg (mtL sg s0.2 s0.1)) n = sg n := fun n hn => upR_n (by omega)
  have vx : ∀ {s : Vw}, vwM made s → vG sg s → vG (upR sg made (dcA sg (mtL sg s0.2 s0.1))) s := fun h q => vG_ext (fun n hn => sgo n (h n hn)) q
  refine ⟨⟨cut_vG hp hM.1 p1 (p2 s0 c0 rfl) q3 hl3, fun s c e => absurd e (by simp), fun s e => vx (hM.2.2.1 s e) (p3 s e), fun s e => vx (hM.2.2.2.1 s e) (p4 s e), fun s hs => vx (hM.2.2.2.2 s hs) (p5 s hs)⟩, ⟨p6.1, fun d hd n j d' h1 h2 h3 => ?_⟩, fun s c e => absurd e (by simp), ⟨p8, p8b, p8c, by omega⟩, fun w => absurd w (by decide), hcc', fun z => ?_, ⟨fun n hn d hd => ?_, p12.2⟩, p13, by omega, ?_⟩
  · obtain ⟨y, y1, y2, y3, _⟩ := cut_pre hp hM.1 q3 hl3 n j d' h1 h2 h3
    exact p6.2 d hd y.1 y.2 d' y1 y2 y3
  · exfalso
    have := (p11 z).2
    obtain ⟨a, ha⟩ := get_ex (l := ix.1) (k := 0) (by omega)
    have := hM.1 a (List.mem_of_getElem? ha)
    omega
  · rcases Nat.lt_or_ge n made with z | z
    · rw [sgo n z] at hd
      exact p12.1 n z d hd
    · rw [show n = made by omega, upR_s] at hd
      obtain ⟨j, hj⟩ := List.mem_iff_getElem?.mp hd
      obtain ⟨y, hy, ed⟩ := dcA_get hj
      obtain ⟨m1, m2, m3⟩ := mt_get hy
      rw [← ed] at m3
      exact p12.1 y.1 (hM.2.1 s0 rfl y.1 m1) d (List.mem_of_getElem? m3)
  · have e1 : smN (fun n => (upR sg made (dcA sg (mtL sg s0.2 s0.1)) n).length) (made + 1) = smN (fun n => (sg n).length) made + (mtL sg s0.2 s0.1).length := by
      rw [smN, upR_s, dcA_len]
      congr 1
      exact smN_ext (fun n hn => by rw [sgo n hn])
    show smN (fun n => (upR sg made (dcA sg (mtL sg s0.2 s0.1)) n).length) (made + 1) + B.length + 0 ≤ k + 1
    rw [e1]
    have p15' : smN (fun n => (sg n).length) made + B.length + c0 ≤ k := p15
    omega
/-- the numbers of the merged documents -/
def nlM (sl : Nat → List Nat) (mp : List (Nat × Nat)) : List Nat := mp.map (fun z => (sl z.1).getD z.2 0)
theorem nlM_dc {sl : Nat → List Nat} : (nlM sl (mtL (sgR sl) s0.2 s0.1)).map dcR = dcA (sgR sl) (mtL (sgR sl) s0.2 s0.1) := by
  unfold nlM dcA
  rw [List.map_map]
  refine List.map_congr_left (fun z hz => ?_)
  obtain ⟨i, hi⟩ := List.mem_iff_getElem?.mp hz
  obtain ⟨a, a1, a2, a3, -⟩ := mt_a hi
  show dcR ((sl z.1).getD z.2 0) = _
  rw [a2, a3]
end LZA
/-- the law's part of a merge's end -/
def mcO (S V : cS) (ar : Nat → Nat) (dn made w : Nat) (cc : Option Nat) (sl : Nat → List Nat) (lv : Nat → Nat → Bool) (mp : List (Nat × Nat)) (ids : List Nat) (md : Nat) : Prop := lwT S V ([2, 3, 4, 5, 6, 15].map ar) ∧ rO S V (ar 15) [2, 3, 4, 5, 9] ∧ (cI V (ar 15) 2 = nI md ∧ cI V (ar 15) 3 = nI ids.length ∧ cI V (ar 15) 4 = nI (w + 1) ∧ cI V (ar 15) 5 = cIn (cc.map (fun k => k - 1)) ∧ cI V (ar 15) 9 = nI 0) ∧ (∀ i a, ids[i]? = some a → cI V (ar 6) i = nI a) ∧ rJ S V (ar 2) [made] ∧ (rO S V (ar 3) [made] ∧ cI V (ar 3) made = nI mp.length) ∧ (∃ v, v < 64 ^ mp.length ∧ cJ V (ar 2) made = lN v ∧ ∀ j z a, j < mp.length → mp[j]? = some z → (sl z.1)[z.2]? = some a → v / 64 ^ j % 64 < dn ∧ cJ S (ar 0) (v / 64 ^ j % 64) = lN a ∧ a < 2 ^ 51) ∧ (rO S V (ar 4) [made] ∧ cI V (ar 4) made = nI (bN (fun j => lv (mp.getD j (0, 0)).1 (mp.getD j (0, 0)).2) mp.length)) ∧ rO S V (ar 5) [made] ∧ cI V (ar 5) made = nI (bN (fun _ => true) mp.length)
section LZB
variable {S V T U : cS} {dp x k cd dd made dn p : Nat} {ar : Nat → Nat} {sl : Nat → List Nat} {BL : List Nat} {ix s0 : Vw} {cm pr : Option Vw} {sn : List (Nat × Vw)} {o1 o2 : Option (Nat × Vw)} {op fi w c0 : Nat} {cc : Option Nat} {off ad : Bool} {H : List (Nat × Nat)} {sk tk : Nat} {R : List (Nat × Nat)}
theorem I6_cut0 (g : I6 S ar dn made sl BL ix (some (s0, c0)) cm pr o1 o2 op fi w cc false H sk tk R) (hM : ixM made ix (some (s0, c0)) cm pr sn) (h : mcO S V ar dn made w cc sl ix.2 [] (ix.1.take p ++ ix.1.drop (p + 3)) made) : I6 V ar dn made sl BL (ix.1.take p ++ ix.1.drop (p + 3), ix.2) none cm pr o1 o2 op fi (w + 1) (cc.map (fun k => k - 1)) false H sk tk R := by
  obtain ⟨g1, g2, g3, g4, g5, g6, ⟨g7, g8, g9, g10⟩, g11, g12, g13⟩ := g
  obtain ⟨wV, oV, ⟨m2, m3, m4, m5, m9⟩, x1, s1, ⟨z1, -⟩, -, ⟨v1, -⟩, w1, -⟩ := h
  have gV := lR_w wV g1
  have sub : ∀ n, n ∈ ix.1.take p ++ ix.1.drop (p + 3) → n ∈ ix.1 := fun n hn => cut_sub.subset hn
  refine ⟨gV, ⟨⟨gV.1 0 (by decide), gV.1 2 (by decide), gV.1 3 (by decide)⟩, g2.2.1, fun n hn => ?_⟩, ⟨⟨(oV 0 (by decide)).trans g3.1.1, g3.1.2⟩, ⟨m2, g3.2.1.2⟩, g3.2.2⟩, bf_w g1 wV rfl oV rfl g4, ⟨⟨m3, Nat.le_trans cut_sub.length_le g5.1.2⟩, fun i n hi => ⟨x1 i n hi, hM.1 n (sub n (List.mem_of_getElem? hi))⟩, fun n hn => ?_⟩, ⟨m9, fun s c e => absurd e (by simp)⟩, ⟨of_w 7 (by decide) ⟨rfl, rfl⟩ g1 wV rfl g7, of_w 8 (by decide) ⟨rfl, rfl⟩ g1 wV rfl g8, of_w 9 (by decide) ⟨rfl, rfl⟩ g1 wV rfl g9, of_w 10 (by decide) ⟨rfl, rfl⟩ g1 wV rfl g10⟩, ⟨fun n hn => ?_, fun q e => ⟨fun n hn => ?_, fun n hn hnp => (g11.2 q e).2 n (sub n hn) hnp⟩⟩, ⟨m4, fun _ => m5, (oV 6 (by decide)).trans g12.2.2.1, (oV 7 (by decide)).trans g12.2.2.2.1, (oV 8 (by decide)).trans g12.2.2.2.2⟩, fi_w g1 wV rfl oV rfl g13⟩
  · rw [z1 n (by simp; omega), s1 n (by simp; omega), lwJ g1 wV 0 rfl]
    exact g2.2.2 n hn
  · have := hM.1 n (sub n hn)
    rw [v1 n (by simp; omega)]
    exact g5.2.2 n (sub n hn)
  · have := hM.1 n (sub n hn)
    rw [w1 n (by simp; omega)]
    exact g11.1 n (sub n hn)
  · rw [lwI g1 wV 14 rfl]
    exact (g11.2 q e).1 n hn
theorem I6_cut1 (g : I6 S ar dn made sl BL ix (some (s0, c0)) cm pr o1 o2 op fi w cc false H sk tk R) (hM : ixM made ix (some (s0, c0)) cm pr sn) (nd : ix.1.Nodup) (hp : p + 3 ≤ ix.1.length) (hmd : made < 27) (hl10 : (mtL (sgR sl) s0.2 s0.1).length ≤ 10) (h : mcO S V ar dn made w cc sl ix.2 (mtL (sgR sl) s0.2 s0.1) (ix.1.take p ++ made :: ix.1.drop (p + 3)) (made + 1)) : I6 V ar dn (made + 1) (upR sl made (nlM sl (mtL (sgR sl) s0.2 s0.1))) BL (ix.1.take p ++ made :: ix.1.drop (p + 3), lvM made (mtL (sgR sl) s0.2 s0.1) ix.2) none cm pr o1 o2 op fi (w + 1) (cc.map (fun k => k - 1)) false H sk tk R := by
  obtain ⟨g1, g2, g3, g4, g5, g6, ⟨g7, g8, g9, g10⟩, g11, g12, g13⟩ := g
  obtain ⟨wV, oV, ⟨m2, m3, m4, m5, m9⟩, x1, s1, ⟨z1, z2⟩, ⟨y, hy, hj, hd⟩, ⟨v1, v2⟩, w1, w2⟩ := h
  have gV := lR_w wV g1
  have sgo : ∀ n, n < made → upR sl made (nlM sl (mtL (sgR sl) s0.2 s0.1)) n = sl n := fun n hn => upR_n (by omega)
  have sB : upR sl made (nlM sl (mtL (sgR sl) s0.2 s0.1)) made = nlM sl (mtL (sgR sl) s0.2 s0.1) := upR_s
  have lN' : (nlM sl (mtL (sgR sl) s0.2 s0.1)).length = (mtL (sgR sl) s0.2 s0.1).length := List.length_map _
  have ncm : made ∉ ovL cm := by
    cases cm with
    | none => exact List.not_mem_nil
    | some s => exact nm_in (hM.2.2.1 s rfl)
  have npr : ∀ s, pr = some s → made ∉ s.1 := fun s e => nm_in (hM.2.2.2.1 s e)
  have mem2 : ∀ n, n ∈ ix.1.take p ++ made :: ix.1.drop (p + 3) → n ≠ made → n ∈ ix.1 := fun n hn hne => (cut_mem (by omega) hn).elim (fun e => absurd e hne) (fun ⟨a, _, ha⟩ => List.mem_of_getElem? ha)
  have lt1 : ∀ n, n ∈ ix.1.take p ++ made :: ix.1.drop (p + 3) → n < made + 1 := fun n hn => by
    by_cases e : n = made
    · omega
    · have := hM.1 n (mem2 n hn e); omega
  have l27 : (ix.1.take p ++ made :: ix.1.drop (p + 3)).length ≤ 27 := by
    have := nd_lt (cut_nd (by omega) nd (nm_in hM.1)) lt1
    omega
  refine ⟨gV, ⟨⟨gV.1 0 (by decide), gV.1 2 (by decide), gV.1 3 (by decide)⟩, ⟨by omega, g2.2.1.2⟩, fun n hn => ?_⟩, ⟨⟨(oV 0 (by decide)).trans g3.1.1, g3.1.2⟩, ⟨m2, by omega⟩, fun n hn a ha => ?_, g3.2.2.2⟩, bf_w g1 wV rfl oV rfl g4, ⟨⟨m3, l27⟩, fun i n hi => ⟨x1 i n hi, lt1 n (List.mem_of_getElem? hi)⟩, fun n hn => ?_⟩, ⟨m9, fun s c e => absurd e (by simp)⟩, ⟨lOf_up (by omega) sgo (of_w 7 (by decide) ⟨rfl, rfl⟩ g1 wV rfl g7), lOf_up (by omega) sgo (of_w 8 (by decide) ⟨rfl, rfl⟩ g1 wV rfl g8), lOf_up (by omega) sgo (of_w 9 (by decide) ⟨rfl, rfl⟩ g1 wV rfl g9), lOf_up (by omega) sgo (of_w 10 (by decide) ⟨rfl, rfl⟩ g1 wV rfl g10)⟩, ⟨fun n hn => ?_, fun q e => ⟨fun n hn => ?_, fun n hn hnp => ?_⟩⟩, ⟨m4, fun _ => m5, (oV 6 (by decide)).trans g12.2.2.1, (oV 7 (by decide)).trans g12.2.2.2.1, (oV 8 (by decide)).trans g12.2.2.2.2⟩, fi_w g1 wV rfl oV rfl g13⟩
  · rcases Nat.lt_or_ge n made with c | c
    · rw [sgo n c, z1 n (by simp; omega), s1 n (by simp; omega), lwJ g1 wV 0 rfl]
      exact g2.2.2 n c
    · obtain rfl : n = made := by omega
      rw [sB, lN']
      refine ⟨z2, hl10, y, ?_, hj, fun j a hj' => ?_⟩
      · have h2 : 64 ^ (mtL (sgR sl) s0.2 s0.1).length ≤ 64 ^ 10 := Nat.pow_le_pow_right (by decide) hl10
        exact Nat.lt_of_lt_of_le hy h2
      · unfold nlM at hj'
        rw [List.getElem?_map] at hj'
        obtain ⟨z, hz, ez⟩ := Option.map_eq_some_iff.mp hj'
        obtain ⟨b, b1, b2, b3, -⟩ := mt_a hz
        rw [b3] at ez
        subst ez
        rw [lwJ g1 wV 0 rfl]
        exact hd j z b (get_lt hz) hz b1
  · rcases Nat.lt_or_ge n made with c | c
    · rw [sgo n c] at ha
      exact g3.2.2.1 n c a ha
    · obtain rfl : n = made := by omega
      rw [sB] at ha
      obtain ⟨z, hz, ez⟩ := List.mem_map.mp ha
      obtain ⟨i, hi⟩ := List.mem_iff_getElem?.mp hz
      obtain ⟨b, b1, b2, b3, b4, -⟩ := mt_a hi
      rw [b3] at ez
      subst ez
      exact g3.2.2.1 z.1 (hM.2.1 s0 rfl z.1 b4) b (List.mem_of_getElem? b1)
  · by_cases e : n = made
    · subst e
      rw [v2, sB, lN']
      congr 1
      refine bN_ext (fun j hj' => ?_)
      show _ = lvM n (mtL (sgR sl) s0.2 s0.1) ix.2 n j
      unfold lvM
      rw [if_pos rfl]
    · have hin := mem2 n hn e
      have := hM.1 n hin
      rw [v1 n (by simpa using e), sgo n this, g5.2.2 n hin]
      congr 1
      refine bN_ext (fun j hj' => ?_)
      show _ = lvM made (mtL (sgR sl) s0.2 s0.1) ix.2 n j
      unfold lvM
      rw [if_neg e]
  · by_cases e : n = made
    · subst e
      rw [w2, sB, lN']
      congr 1
      refine bN_ext (fun j hj' => ?_)
      have hw : wbs cm n j = true := by unfold wbs; rw [if_neg ncm]
      unfold wrF
      cases pr with
      | none => exact hw.symm
      | some q =>
        show true = if n ∈ q.1 then q.2 n j else wbs cm n j
        rw [if_neg (npr q rfl)]
        exact hw.symm
    · have hin := mem2 n hn e
      have := hM.1 n hin
      rw [w1 n (by simpa using e), sgo n this]
      exact g11.1 n hin
  · rw [lwI g1 wV 14 rfl, sgo n (hM.2.2.2.1 q e n hn)]
    exact (g11.2 q e).1 n hn
  · by_cases e2 : n = made
    · rw [e2]; exact ncm
    · exact (g11.2 q e).2 n (mem2 n hn e2) hnp
end LZB
