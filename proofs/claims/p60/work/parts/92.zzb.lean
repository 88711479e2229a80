section LHB
variable {S T : cS} {dp x k cd dd i L t wy : Nat} {ar : Nat → Nat} {Q : Int32 → cS → Prop} {R116 : Nat → Nat → Nat → Nat → Nat → Nat → Nat → Nat → Nat → Nat → Nat → Nat → Nat → Nat → Nat → Nat → Nat → Int32 → Int32 → Nat → Nat → cS → Prop}
theorem R6_o (h : R6 k S dp x ar cd dd) : ∃ a b c, (cX S (ar 9) 14 (nI 0) ∧ cI S (ar 9) (nI 0).toNatClampNeg = nI a) ∧ (cX S (ar 10) 14 (nI 0) ∧ cI S (ar 10) (nI 0).toNatClampNeg = nI b) ∧ (cX S (ar 15) 14 (nI 6) ∧ cI S (ar 15) (nI 6).toNatClampNeg = bI c) ∧ a < 2 ^ 30 ∧ b < 2 ^ 30 := by
  obtain ⟨ρ, ad, dn, made, sl, BL, ix, mg, cm, pr, sn, o1, o2, op, fi, w, cc, off, H, sk, tk, CL, u, R, hL, hC, hI, hT, hP, hF, hc1, hc2⟩ := h
  obtain ⟨g1, g2, g3, g4, g5, g6, ⟨g7, g8, g9, g10⟩, g11, g12, g13⟩ := hI
  exact ⟨_, _, off, ⟨lR_X g1 (i := 9) (by decide) (by decide), by rw [nI_x 0 (by decide)]; exact g9.2.1.1⟩, ⟨lR_X g1 (i := 10) (by decide) (by decide), by rw [nI_x 0 (by decide)]; exact g10.2.1.1⟩, ⟨lR_X g1 (i := 15) (by decide) (by decide), by rw [nI_x 6 (by decide)]; exact g12.2.2.1⟩, g9.2.1.2, g10.2.1.2⟩
theorem R6_c (h : R6 k S dp x ar cd dd) (hk : k ≤ 250) : cd ≤ 500000 ∧ dd ≤ 5000000 := by
  have := R6_bd hk (a := 0) (b := 0) (by decide) (by decide) h
  omega
theorem q_745a (h : R6 (2 * i + i / 4) S dp x ar cd dd) (hi : i < 110) (ht : t < 10000000) (hN : nxH R116 dp x i ar) (hq : ¬ cI S (ar 9) (nI 0).toNatClampNeg ≤ 0) : ks_L_holds_745 Q dp 500000 5000000 L R116 x (ar 0) (ar 1) (ar 2) (ar 3) (ar 4) (ar 5) (ar 6) (ar 7) (ar 8) (ar 9) (ar 10) (ar 11) (ar 12) (ar 13) (ar 14) (ar 15) (nI i) (nI t) (ar 9) (ar 3) (ar 2) (ar 0) x cd dd S := by
  unfold ks_L_holds_745
  refine q_found9 h (by omega) ht hq (fun m1 m2 T _ _ hT e9 e10 => ⟨fun z => absurd z (by decide), fun _ => ?_⟩)
  obtain ⟨a, b, c, ⟨y1, y2⟩, -, -, -⟩ := R6_o hT
  rw [← e9] at hq
  refine ⟨y1, fun z => absurd z hq, fun _ => ?_⟩
  unfold ks_L_holds_779
  have e3 : nI t / nI 3 = nI (t / 3) := pk_div (by omega) (by decide) (by decide)
  rw [e3]
  refine q_plain9 hT (by omega) (by omega) hq (fun m1 m2 U _ _ hU => ⟨fun z => absurd z (by decide), fun _ => ?_⟩)
  unfold ks_L_holds_794
  exact q_796 (R6_up hU (by omega)) hi hN
theorem q_745b (h : R6 (2 * i + i / 4) S dp x ar cd dd) (hi : i < 110) (ht : t < 10000000) (hN : nxH R116 dp x i ar) (hq0 : cI S (ar 9) (nI 0).toNatClampNeg ≤ 0) (hq : ¬ cI S (ar 10) (nI 0).toNatClampNeg ≤ 0) : ks_L_holds_745 Q dp 500000 5000000 L R116 x (ar 0) (ar 1) (ar 2) (ar 3) (ar 4) (ar 5) (ar 6) (ar 7) (ar 8) (ar 9) (ar 10) (ar 11) (ar 12) (ar 13) (ar 14) (ar 15) (nI i) (nI t) (ar 10) (ar 3) (ar 2) (ar 0) x cd dd S := by
  unfold ks_L_holds_745
  refine q_found10 h (by omega) ht hq (fun m1 m2 T _ _ hT e9 e10 => ⟨fun z => absurd z (by decide), fun _ => ?_⟩)
  obtain ⟨a, b, c, ⟨y1, y2⟩, -, -, -⟩ := R6_o hT
  rw [← e9] at hq0
  rw [← e10] at hq
  refine ⟨y1, fun _ => ?_, fun z => absurd hq0 z⟩
  unfold ks_L_holds_779
  have e3 : nI t / nI 3 = nI (t / 3) := pk_div (by omega) (by decide) (by decide)
  rw [e3]
  refine q_plain10 hT (by omega) (by omega) hq (fun m1 m2 U _ _ hU => ⟨fun z => absurd z (by decide), fun _ => ?_⟩)
  unfold ks_L_holds_794
  exact q_796 (R6_up hU (by omega)) hi hN
theorem q_725 (h : R6 (2 * i + i / 4) S dp x ar cd dd) (hi : i < 110) (ht : t < 10000000) (hN : nxH R116 dp x i ar) (hq : ¬ cI S (ar 9) (nI 0).toNatClampNeg ≤ 0 ∨ ¬ cI S (ar 10) (nI 0).toNatClampNeg ≤ 0) : ks_L_holds_725 Q dp 500000 5000000 L R116 x (ar 0) (ar 1) (ar 2) (ar 3) (ar 4) (ar 5) (ar 6) (ar 7) (ar 8) (ar 9) (ar 10) (ar 11) (ar 12) (ar 13) (ar 14) (ar 15) (nI i) (nI t) cd dd S := by
  obtain ⟨a, b, c, ⟨y1, y2⟩, -, -, -⟩ := R6_o h
  unfold ks_L_holds_725
  exact ⟨y1, fun z => q_745b h hi ht hN z (hq.elim (fun w => absurd z w) id), fun z => q_745a h hi ht hN z⟩
theorem q_711 (h : R6 (2 * i + i / 4) S dp x ar cd dd) (hi : i < 110) (ht : t < 10000000) (hN : nxH R116 dp x i ar) : ks_L_holds_711 Q dp 500000 5000000 L R116 x (ar 0) (ar 1) (ar 2) (ar 3) (ar 4) (ar 5) (ar 6) (ar 7) (ar 8) (ar 9) (ar 10) (ar 11) (ar 12) (ar 13) (ar 14) (ar 15) (nI 1) (nI i) (nI t) cd dd S := by
  obtain ⟨a, b, c, ⟨y1, y2⟩, ⟨z1, z2⟩, -, -⟩ := R6_o h
  unfold ks_L_holds_711
  exact ⟨y1, fun z => q_725 h hi ht hN (Or.inl (fun w => absurd z (Int32.not_lt.mpr w))), fun _ => ⟨z1, fun _ => q_796 (R6_up h (by omega)) hi hN, fun w => q_725 h hi ht hN (Or.inr w)⟩⟩
theorem q_571 (h : R6 (2 * i + i / 4) S dp x ar cd dd) (hi : i < 110) (ht : t < 10000000) (hN : nxH R116 dp x i ar) {x21 : Int32} : ks_L_holds_571 Q dp 500000 5000000 L R116 x (ar 0) (ar 1) (ar 2) (ar 3) (ar 4) (ar 5) (ar 6) (ar 7) (ar 8) (ar 9) (ar 10) (ar 11) (ar 12) (ar 13) (ar 14) (ar 15) (nI 1) (nI i) (nI t) x21 cd dd S := by
  obtain ⟨a, b, c, ⟨y1, y2⟩, ⟨z1, z2⟩, ⟨m1, m2⟩, -⟩ := R6_o h
  have e2 : nI t / nI 2 = nI (t / 2) := pk_div (by omega) (by decide) (by decide)
  unfold ks_L_holds_571
  refine ⟨fun _ => q_587 h hi hN, fun _ => ⟨m1, fun _ => ⟨fun _ => ⟨fun _ => q_711 h hi ht hN, fun _ => ⟨y1, fun _ => q_711 h hi ht hN, fun hq => ?_⟩⟩, fun _ => ⟨fun _ => ?_, fun _ => ?_⟩⟩, fun _ => q_587 h hi hN⟩⟩
  · exact q_shutc (Q := fun r r' m1 m2 T => (¬ r = r' → ks_L_holds_706 Q dp 500000 5000000 L R116 x (ar 0) (ar 1) (ar 2) (ar 3) (ar 4) (ar 5) (ar 6) (ar 7) (ar 8) (ar 9) (ar 10) (ar 11) (ar 12) (ar 13) (ar 14) (ar 15) (nI i) (nI 0) (cd + m1) (dd + m2) T) ∧ (r = r' → ks_L_holds_706 Q dp 500000 5000000 L R116 x (ar 0) (ar 1) (ar 2) (ar 3) (ar 4) (ar 5) (ar 6) (ar 7) (ar 8) (ar 9) (ar 10) (ar 11) (ar 12) (ar 13) (ar 14) (ar 15) (nI i) (nI 1) (cd + m1) (dd + m2) T)) h (by omega) hq (fun m1 m2 r T _ _ hT => ⟨fun z => absurd rfl z, fun _ => by
      unfold ks_L_holds_706
      exact q_796 (R6_up hT (by omega)) hi hN⟩)
  · unfold ks_L_holds_634
    rw [e2]
    exact q_look10 h (by omega) (by omega) (fun m1 m2 T _ _ hT => q_796 (R6_up hT (by omega)) hi hN)
  · unfold ks_L_holds_634
    rw [e2]
    exact q_look9 h (by omega) (by omega) (fun m1 m2 T _ _ hT => q_796 (R6_up hT (by omega)) hi hN)
theorem q_535 (h : R6 (2 * i + i / 4) S dp x ar cd dd) (hi : i < 110) (ht : t < 10000000) (hN : nxH R116 dp x i ar) {x21 : Int32} : ks_L_holds_535 Q dp 500000 5000000 L R116 x (ar 0) (ar 1) (ar 2) (ar 3) (ar 4) (ar 5) (ar 6) (ar 7) (ar 8) (ar 9) (ar 10) (ar 11) (ar 12) (ar 13) (ar 14) (ar 15) (nI 1) (nI i) (nI t) x21 cd dd S := by
  obtain ⟨a, b, c, ⟨y1, y2⟩, ⟨z1, z2⟩, ⟨m1, m2⟩, -⟩ := R6_o h
  unfold ks_L_holds_535
  refine ⟨fun _ => q_571 h hi ht hN, fun _ => ⟨m1, fun _ => q_571 h hi ht hN, fun h6 => ?_⟩⟩
  obtain ⟨q1, q2⟩ := q_crash (Q := fun T => ks_L_holds_796 Q dp 500000 5000000 L R116 x (ar 0) (ar 1) (ar 2) (ar 3) (ar 4) (ar 5) (ar 6) (ar 7) (ar 8) (ar 9) (ar 10) (ar 11) (ar 12) (ar 13) (ar 14) (ar 15) (nI 1) (nI i) cd dd T) h ht h6 (fun T hT => q_796 (R6_up hT (by omega)) hi hN)
  exact ⟨q1, fun V hV => ⟨(q2 V hV).1, R6_c h (by omega), (q2 V hV).2⟩⟩
theorem q_460 (h : R6 (2 * i + i / 4) S dp x ar cd dd) (hi : i < 110) (ht : t < 10000000) (hN : nxH R116 dp x i ar) {x21 x22 : Int32} (h27 : ¬ x22 = 0 → ¬ nI 27 ≤ cI S (ar 15) (nI 2).toNatClampNeg) : ks_L_holds_460 Q dp 500000 5000000 L R116 x (ar 0) (ar 1) (ar 2) (ar 3) (ar 4) (ar 5) (ar 6) (ar 7) (ar 8) (ar 9) (ar 10) (ar 11) (ar 12) (ar 13) (ar 14) (ar 15) (nI 1) (nI i) (nI t) x21 x22 cd dd S := by
  unfold ks_L_holds_460
  have f := q_535 (L := L) (Q := Q) (x21 := x21) h hi ht hN
  have n1 : ks_L_holds_526 Q dp 500000 5000000 L R116 x (ar 0) (ar 1) (ar 2) (ar 3) (ar 4) (ar 5) (ar 6) (ar 7) (ar 8) (ar 9) (ar 10) (ar 11) (ar 12) (ar 13) (ar 14) (ar 15) (nI i) (ar 14) (ar 15) (ar 10) (ar 9) (ar 8) (ar 7) (ar 6) (ar 5) (ar 4) (ar 3) (ar 2) (ar 1) (ar 0) x cd dd S := by
    unfold ks_L_holds_526 ks_L_holds_527
    exact q_comm1 h (by omega) (fun m1 m2 T _ _ hT => q_796 (R6_up hT (by omega)) hi hN)
  refine ⟨fun _ => f, fun _ => ⟨fun _ => f, fun z => ⟨fun _ => ⟨fun _ => n1, fun _ => ⟨fun _ => n1, fun _ => ?_⟩⟩, fun _ => ?_⟩⟩⟩
  · unfold ks_L_holds_527
    exact q_comm2 h (by omega) (fun m1 m2 T _ _ hT => q_796 (R6_up hT (by omega)) hi hN)
  · unfold ks_L_holds_527
    exact q_comm0 h (by omega) (h27 z) (fun m1 m2 T _ _ hT => q_796 (R6_up hT (by omega)) hi hN)
theorem q_389 (h : R6 (2 * i + i / 4) S dp x ar cd dd) (hi : i < 110) (ht : t < 10000000) (hN : nxH R116 dp x i ar) {x21 x22 : Int32} (h27 : ¬ x22 = 0 → ¬ nI 27 ≤ cI S (ar 15) (nI 2).toNatClampNeg) : ks_L_holds_389 Q dp 500000 5000000 L R116 x (ar 0) (ar 1) (ar 2) (ar 3) (ar 4) (ar 5) (ar 6) (ar 7) (ar 8) (ar 9) (ar 10) (ar 11) (ar 12) (ar 13) (ar 14) (ar 15) (nI 1) (nI i) (nI t) x21 x22 cd dd S := by
  unfold ks_L_holds_389
  have f := q_460 (L := L) (Q := Q) (x21 := x21) h hi ht hN h27
  have n1 : ¬ x22 = 0 → ks_L_holds_451 Q dp 500000 5000000 L R116 x (ar 0) (ar 1) (ar 2) (ar 3) (ar 4) (ar 5) (ar 6) (ar 7) (ar 8) (ar 9) (ar 10) (ar 11) (ar 12) (ar 13) (ar 14) (ar 15) (nI i) (ar 15) (ar 10) (ar 9) (ar 8) (ar 13) (ar 6) (ar 5) (ar 4) (ar 3) (ar 2) x cd dd S := fun z => by
    unfold ks_L_holds_451 ks_L_holds_452
    exact q_merge1 h (by omega) (h27 z) (fun m1 m2 T _ _ hT => q_796 (R6_up hT (by omega)) hi hN)
  refine ⟨fun _ => f, fun _ => ⟨fun _ => f, fun z => ⟨fun _ => ⟨fun _ => n1 z, fun _ => ⟨fun _ => n1 z, fun _ => ?_⟩⟩, fun _ => ?_⟩⟩⟩
  · unfold ks_L_holds_452
    exact q_merge2 h (by omega) (fun m1 m2 T _ _ hT => q_796 (R6_up hT (by omega)) hi hN)
  · unfold ks_L_holds_452
    exact q_merge0 h (by omega) (fun m1 m2 T _ _ hT => q_796 (R6_up hT (by omega)) hi hN)
theorem q_243 (h : R6 (2 * i + i / 4) S dp x ar cd dd) (hi : i < 110) (ht : t < 10000000) (hN : nxH R116 dp x i ar) {x21 x22 : Int32} (h27 : ¬ x22 = 0 → ¬ nI 27 ≤ cI S (ar 15) (nI 2).toNatClampNeg) : ks_L_holds_243 Q dp 500000 5000000 L R116 x (ar 0) (ar 1) (ar 2) (ar 3) (ar 4) (ar 5) (ar 6) (ar 7) (ar 8) (ar 9) (ar 10) (ar 11) (ar 12) (ar 13) (ar 14) (ar 15) (nI 1) (nI i) (nI t) x21 x22 cd dd S := by
  unfold ks_L_holds_243
  have f := q_389 (L := L) (Q := Q) (x21 := x21) h hi ht hN h27
  refine ⟨fun _ => ⟨fun _ => f, fun _ => ⟨fun _ => f, fun z => ?_⟩⟩, fun _ => ?_⟩
  · exact q_flushc (G := cd ≤ 500000 ∧ dd ≤ 5000000) (Q := fun r r' m1 m2 T => (¬ r = r' → ks_L_holds_384 Q dp 500000 5000000 L R116 x (ar 0) (ar 1) (ar 2) (ar 3) (ar 4) (ar 5) (ar 6) (ar 7) (ar 8) (ar 9) (ar 10) (ar 11) (ar 12) (ar 13) (ar 14) (ar 15) (nI i) (nI 0) (cd + m1) (dd + m2) T) ∧ (r = r' → ks_L_holds_384 Q dp 500000 5000000 L R116 x (ar 0) (ar 1) (ar 2) (ar 3) (ar 4) (ar 5) (ar 6) (ar 7) (ar 8) (ar 9) (ar 10) (ar 11) (ar 12) (ar 13) (ar 14) (ar 15) (nI i) (nI 1) (cd + m1) (dd + m2) T)) h (by omega) (h27 z) (R6_c h (by omega)) (fun m1 m2 r T _ _ hT => ⟨fun z => absurd rfl z, fun _ => by
      unfold ks_L_holds_384
      exact q_796 (R6_up hT (by omega)) hi hN⟩)
  · exact q_delc (G := cd ≤ 500000 ∧ dd ≤ 5000000) (Q := fun r r' m1 m2 T => (¬ r = r' → ks_L_holds_313 Q dp 500000 5000000 L R116 x (ar 0) (ar 1) (ar 2) (ar 3) (ar 4) (ar 5) (ar 6) (ar 7) (ar 8) (ar 9) (ar 10) (ar 11) (ar 12) (ar 13) (ar 14) (ar 15) (nI i) (nI 0) (cd + m1) (dd + m2) T) ∧ (r = r' → ks_L_holds_313 Q dp 500000 5000000 L R116 x (ar 0) (ar 1) (ar 2) (ar 3) (ar 4) (ar 5) (ar 6) (ar 7) (ar 8) (ar 9) (ar 10) (ar 11) (ar 12) (ar 13) (ar 14) (ar 15) (nI i) (nI 1) (cd + m1) (dd + m2) T)) h (by omega) ht (R6_c h (by omega)) (fun m1 m2 r T _ _ hT => ⟨fun z => absurd rfl z, fun _ => by
      unfold ks_L_holds_313
      exact q_796 (R6_up hT (by omega)) hi hN⟩)
theorem nI_lt7 {r : Int32} (h0 : 0 ≤ r) (h1 : r < 10000000) : ∃ t, t < 10000000 ∧ r = nI t := by
  obtain ⟨t, ht, rfl⟩ := nI_of (x := r) (fun z => absurd h0 (Int32.not_le.mpr z))
  exact ⟨t, (nI_ltI ht (by decide)).mp h1, rfl⟩
theorem q_193 (h : R6 (2 * i + i / 4) S dp x ar cd dd) (hi : i < 110) (ht : t < 10000000) (hN : nxH R116 dp x i ar) {x21 x22 : Int32} (h60 : ¬ x22 = 0 → ¬ nI 60 ≤ cI S (ar 15) (nI 0).toNatClampNeg + cI S (ar 15) (nI 1).toNatClampNeg) (h27 : ¬ x22 = 0 → ¬ nI 27 ≤ cI S (ar 15) (nI 2).toNatClampNeg) : ks_L_holds_193 Q dp 500000 5000000 L R116 x (ar 0) (ar 1) (ar 2) (ar 3) (ar 4) (ar 5) (ar 6) (ar 7) (ar 8) (ar 9) (ar 10) (ar 11) (ar 12) (ar 13) (ar 14) (ar 15) (nI 1) (nI i) (nI t) x21 x22 cd dd S := by
  unfold ks_L_holds_193
  have f := q_243 (L := L) (Q := Q) (x21 := x21) h hi ht hN h27
  refine ⟨fun _ => f, fun _ => ⟨fun _ => f, fun z => ⟨⟨?_, by decide⟩, R6_c h (by omega), fun r h0 h1 => ?_⟩⟩⟩
  · rw [pk_mul, nI_add]
    exact nI_pos' (by omega)
  · obtain ⟨v, hv, rfl⟩ := nI_lt7 h0 h1
    exact q_added h (by omega) ht hv (h60 z) (fun m1 m2 T _ _ hT => q_796 (R6_up hT (by omega)) hi hN)
theorem q_163 (h : R6 (2 * i + i / 4) S dp x ar cd dd) (hi : i < 110) (ht : t < 10000000) (hN : nxH R116 dp x i ar) {x21 : Int32} : ks_L_holds_163 Q dp 500000 5000000 L R116 x (ar 0) (ar 1) (ar 2) (ar 3) (ar 4) (ar 5) (ar 6) (ar 7) (ar 8) (ar 9) (ar 10) (ar 11) (ar 12) (ar 13) (ar 14) (ar 15) (nI 1) (nI i) (nI t) x21 cd dd S := by
  have c15 : ∀ q, q < 17 → cX S (ar 15) 14 (nI q) := fun q hq => by
    obtain ⟨ρ, ad, dn, made, sl, BL, ix, mg, cm, pr, sn, o1, o2, op, fi, w, cc, off, H, sk, tk, CL, u, R, hL, hC, hI, -⟩ := h
    exact lR_X hI.1 (i := 15) (by decide) (show q < lLn 15 from hq)
  unfold ks_L_holds_163
  refine ⟨c15 0 (by decide), c15 1 (by decide), fun _ => ?_, fun h60 => ⟨c15 2 (by decide), fun _ => ?_, fun h27 => ?_⟩⟩
  · unfold ks_L_holds_192
    exact q_193 h hi ht hN (fun z => absurd rfl z) (fun z => absurd rfl z)
  · unfold ks_L_holds_192
    exact q_193 h hi ht hN (fun z => absurd rfl z) (fun z => absurd rfl z)
  · exact q_193 h hi ht hN (fun _ => h60) (fun _ => h27)
theorem q_116 (h : R6 0 S dp x ar cd dd) (hQ : ∀ T, Q (bI true) T) : ks_L_holds_116L Q dp 500000 5000000 L x (ar 0) (ar 1) (ar 2) (ar 3) (ar 4) (ar 5) (ar 6) (ar 7) (ar 8) (ar 9) (ar 10) (ar 11) (ar 12) (ar 13) (ar 14) (ar 15) (nI 1) (nI 0) cd dd S := by
  unfold ks_L_holds_116L
  refine lfp_cnt 110 (fun i y => ∃ T cd dd, R6 (2 * i + i / 4) T dp x ar cd dd ∧ y = (x, ar 0, ar 1, ar 2, ar 3, ar 4, ar 5, ar 6, ar 7, ar 8, ar 9, ar 10, ar 11, ar 12, ar 13, ar 14, ar 15, nI 1, nI i, cd, dd, T)) ?_ ⟨S, cd, dd, (show R6 (2 * 0 + 0 / 4) S dp x ar cd dd from h), rfl⟩
  rintro P i _ hi ⟨T, cd, dd, hT, rfl⟩ ih
  show ks_L_holds_116 Q dp 500000 5000000 L _ x (ar 0) (ar 1) (ar 2) (ar 3) (ar 4) (ar 5) (ar 6) (ar 7) (ar 8) (ar 9) (ar 10) (ar 11) (ar 12) (ar 13) (ar 14) (ar 15) (nI 1) (nI i) cd dd T
  unfold ks_L_holds_116
  refine pk_le 110 i (fun c => ?_) (fun c => ⟨fun z => absurd z (by decide), fun _ => ⟨⟨?_, by decide⟩, R6_c hT (by omega), fun r h0 h1 => ?_⟩⟩)
  · obtain rfl : i = 110 := by omega
    unfold ks_L_holds_848
    refine ⟨fun z => absurd z (by decide), fun _ => ?_⟩
    obtain ⟨m1, m2, b1, b2, hq⟩ := q_index (Q := fun m1 m2 r U => (r = 0 → (cd + m1 ≤ 500000 ∧ dd + m2 ≤ 5000000) ∧ Q (bI false) U) ∧ (¬ r = 0 → (cd + m1 ≤ 500000 ∧ dd + m2 ≤ 5000000) ∧ Q (bI true) U)) hT (by decide) (fun m1 m2 U k1 k2 _ => ⟨fun z => absurd z (by decide), fun _ => ⟨⟨k1, k2⟩, hQ U⟩⟩)
    exact ⟨m1, m2, b1, b2, hq⟩
  · rw [pk_mul, nI_add]
    exact nI_pos' (by omega)
  · obtain ⟨v, hv, rfl⟩ := nI_lt7 h0 h1
    have hN : nxH (fun b0 b1 b2 b3 b4 b5 b6 b7 b8 b9 b10 b11 b12 b13 b14 b15 b16 b17 b18 b19 b20 S => P (b0, b1, b2, b3, b4, b5, b6, b7, b8, b9, b10, b11, b12, b13, b14, b15, b16, b17, b18, b19, b20, S)) dp x i ar := fun U cd' dd' hU => ih _ c ⟨U, cd', dd', hU, rfl⟩
    refine ⟨fun _ => ⟨⟨?_, by decide⟩, R6_c hT (by omega), fun r2 _ _ => q_163 hT c hv hN⟩, fun _ => q_163 hT c hv hN⟩
    rw [pk_mul]
    exact nI_pos' (by omega)
end LHB
