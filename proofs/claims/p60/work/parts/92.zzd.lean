/-! isReady: the whole way -/
section LRZ
variable {Q : Int32 → cS → Prop} {S0 S : cS} {ρ0 : Nat → Nat} {dp x mc ms cd dd : Nat}
theorem rd_486 (h : RY S0 ρ0 dp x 1 A6 1 F6 G6 3 (upR (upR (upR nd0 0 ((0, 0, 0, 0), false, [(tcN 0, 0)], [], 0)) 1 ((0, 0, 0, 0), false, [(tcN 4, 0)], [], 0)) 2 ((6, 0, 2, 2), false, [], [], 0)) (qs6.take 8) S []) (hc : cd ≤ 3040) (hd : dd ≤ 30300) (hm : 3300 ≤ mc) (hs : 33000 ≤ ms) (hQ : ∀ T, RY S0 ρ0 dp x 1 A6 1 F6 G6 0 nd0 qs6 T [] → Q (bI true) T) : k_L_isReady_486 Q dp mc ms x (nI 1) cd dd S := by
  unfold k_L_isReady_486
  refine ⟨⟨by omega, by omega⟩, q_R_types (w := 4) (by decide) h (by decide) (fun U h => ?_)⟩
  refine ⟨fun c => absurd c (by decide), fun _ => ?_⟩
  refine ⟨RY_x h, 240, 2200, by omega, by omega, RY_term h (f := 1) (by decide) (by decide) (WSo_s (w := 4) WSo_0 (by decide)) (tk := [(tcN 2, 0)]) rfl rfl (by decide) (by decide) (by decide) (by decide) (by decide) (r := 2) rfl (fun U h => ⟨fun c => absurd rfl c, fun _ => ?_⟩)⟩
  refine ⟨RY_x h, 10, 200, by omega, by omega, RY_but h (by decide) (by decide) (by decide) (by decide) (by decide) (by decide) (r := 1) rfl (fun U h => ⟨fun c => absurd rfl c, fun _ => ?_⟩)⟩
  refine ⟨RY_x h, 10, 300, by omega, by omega, RY_query h (by decide) (by decide) (by decide) (by decide) (r := 8) rfl (qs' := qs6.take 9) rfl (fun U h => ⟨fun c => absurd rfl c, fun _ => ?_⟩)⟩
  exact ⟨⟨by omega, by omega⟩, hQ _ h⟩
theorem rd_451 (h : RY S0 ρ0 dp x 1 A6 1 F6 G6 1 (upR nd0 0 ((0, 0, 0, 0), false, [(tcN 0, 0)], [], 0)) (qs6.take 8) S []) (hc : cd ≤ 2790) (hd : dd ≤ 27900) (hm : 3300 ≤ mc) (hs : 33000 ≤ ms) (hQ : ∀ T, RY S0 ρ0 dp x 1 A6 1 F6 G6 0 nd0 qs6 T [] → Q (bI true) T) : k_L_isReady_451 Q dp mc ms x (nI 1) cd dd S := by
  unfold k_L_isReady_451
  refine ⟨⟨by omega, by omega⟩, q_R_types (w := 6) (by decide) h (by decide) (fun U h => ?_)⟩
  refine ⟨fun c => absurd c (by decide), fun _ => ?_⟩
  refine ⟨RY_x h, 240, 2200, by omega, by omega, RY_term h (f := 0) (by decide) (by decide) (WSo_s (w := 6) WSo_0 (by decide)) (tk := [(tcN 4, 0)]) rfl rfl (by decide) (by decide) (by decide) (by decide) (by decide) (r := 2) rfl (fun U h => ⟨fun c => absurd rfl c, fun _ => ?_⟩)⟩
  refine ⟨RY_x h, 10, 200, by omega, by omega, RY_least h (k := 2) (j := 2) (by decide) (by decide) (by decide) (by decide) (by decide) (by decide) (by decide) (r := 1) rfl (fun U h => ⟨fun c => absurd rfl c, fun _ => ?_⟩)⟩
  exact rd_486 h (by omega) (by omega) hm hs hQ
theorem rd_427 (h : RY S0 ρ0 dp x 1 A6 1 F6 G6 0 nd0 (qs6.take 8) S []) (hc : cd ≤ 2550) (hd : dd ≤ 25700) (hm : 3300 ≤ mc) (hs : 33000 ≤ ms) (hQ : ∀ T, RY S0 ρ0 dp x 1 A6 1 F6 G6 0 nd0 qs6 T [] → Q (bI true) T) : k_L_isReady_427 Q dp mc ms x (nI 1) cd dd S := by
  unfold k_L_isReady_427
  refine ⟨⟨by omega, by omega⟩, q_R_types (w := 1) (by decide) h (by decide) (fun U h => ?_)⟩
  refine ⟨fun c => absurd c (by decide), fun _ => ?_⟩
  refine ⟨RY_x h, 240, 2200, by omega, by omega, RY_term h (f := 0) (by decide) (by decide) (WSo_s (w := 1) WSo_0 (by decide)) (tk := [(tcN 0, 0)]) rfl rfl (by decide) (by decide) (by decide) (by decide) (by decide) (r := 1) rfl (fun U h => ⟨fun c => absurd rfl c, fun _ => ?_⟩)⟩
  exact rd_451 h (by omega) (by omega) hm hs hQ
theorem rd_384 (h : RY S0 ρ0 dp x 1 A6 1 F6 G6 2 (upR (upR nd0 0 ((0, 0, 0, 0), false, [(tcN 0, 0)], [], 0)) 1 ((0, 1, 0, 0), false, [(tcN 2, 0)], [], 0)) (qs6.take 7) S []) (hc : cd ≤ 2290) (hd : dd ≤ 23000) (hm : 3300 ≤ mc) (hs : 33000 ≤ ms) (hQ : ∀ T, RY S0 ρ0 dp x 1 A6 1 F6 G6 0 nd0 qs6 T [] → Q (bI true) T) : k_L_isReady_384 Q dp mc ms x (nI 1) cd dd S := by
  unfold k_L_isReady_384
  refine ⟨⟨by omega, by omega⟩, q_R_types (w := 5) (by decide) h (by decide) (fun U h => ?_)⟩
  refine ⟨fun c => absurd c (by decide), fun _ => ?_⟩
  refine ⟨RY_x h, 240, 2200, by omega, by omega, RY_term h (f := 0) (by decide) (by decide) (WSo_s (w := 5) WSo_0 (by decide)) (tk := [(tcN 3, 0)]) rfl rfl (by decide) (by decide) (by decide) (by decide) (by decide) (r := 3) rfl (fun U h => ⟨fun c => absurd rfl c, fun _ => ?_⟩)⟩
  refine ⟨RY_x h, 10, 200, by omega, by omega, RY_least h (k := 3) (j := 1) (by decide) (by decide) (by decide) (by decide) (by decide) (by decide) (by decide) (r := 1) rfl (fun U h => ⟨fun c => absurd rfl c, fun _ => ?_⟩)⟩
  refine ⟨RY_x h, 10, 300, by omega, by omega, RY_query h (by decide) (by decide) (by decide) (by decide) (r := 7) rfl (qs' := qs6.take 8) rfl (fun U h => ⟨fun c => absurd rfl c, fun _ => ?_⟩)⟩
  exact rd_427 h (by omega) (by omega) hm hs hQ
theorem rd_360 (h : RY S0 ρ0 dp x 1 A6 1 F6 G6 1 (upR nd0 0 ((0, 0, 0, 0), false, [(tcN 0, 0)], [], 0)) (qs6.take 7) S []) (hc : cd ≤ 2050) (hd : dd ≤ 20800) (hm : 3300 ≤ mc) (hs : 33000 ≤ ms) (hQ : ∀ T, RY S0 ρ0 dp x 1 A6 1 F6 G6 0 nd0 qs6 T [] → Q (bI true) T) : k_L_isReady_360 Q dp mc ms x (nI 1) cd dd S := by
  unfold k_L_isReady_360
  refine ⟨⟨by omega, by omega⟩, q_R_types (w := 4) (by decide) h (by decide) (fun U h => ?_)⟩
  refine ⟨fun c => absurd c (by decide), fun _ => ?_⟩
  refine ⟨RY_x h, 240, 2200, by omega, by omega, RY_term h (f := 1) (by decide) (by decide) (WSo_s (w := 4) WSo_0 (by decide)) (tk := [(tcN 2, 0)]) rfl rfl (by decide) (by decide) (by decide) (by decide) (by decide) (r := 2) rfl (fun U h => ⟨fun c => absurd rfl c, fun _ => ?_⟩)⟩
  exact rd_384 h (by omega) (by omega) hm hs hQ
theorem rd_336 (h : RY S0 ρ0 dp x 1 A6 1 F6 G6 0 nd0 (qs6.take 7) S []) (hc : cd ≤ 1810) (hd : dd ≤ 18600) (hm : 3300 ≤ mc) (hs : 33000 ≤ ms) (hQ : ∀ T, RY S0 ρ0 dp x 1 A6 1 F6 G6 0 nd0 qs6 T [] → Q (bI true) T) : k_L_isReady_336 Q dp mc ms x (nI 1) cd dd S := by
  unfold k_L_isReady_336
  refine ⟨⟨by omega, by omega⟩, q_R_types (w := 1) (by decide) h (by decide) (fun U h => ?_)⟩
  refine ⟨fun c => absurd c (by decide), fun _ => ?_⟩
  refine ⟨RY_x h, 240, 2200, by omega, by omega, RY_term h (f := 0) (by decide) (by decide) (WSo_s (w := 1) WSo_0 (by decide)) (tk := [(tcN 0, 0)]) rfl rfl (by decide) (by decide) (by decide) (by decide) (by decide) (r := 1) rfl (fun U h => ⟨fun c => absurd rfl c, fun _ => ?_⟩)⟩
  exact rd_360 h (by omega) (by omega) hm hs hQ
theorem rd_154 (h : RY S0 ρ0 dp x 1 A6 1 F6 G6 0 nd0 (qs6.take 3) S []) (hc : cd ≤ 810) (hd : dd ≤ 8600) (hm : 3300 ≤ mc) (hs : 33000 ≤ ms) (hQ : ∀ T, RY S0 ρ0 dp x 1 A6 1 F6 G6 0 nd0 qs6 T [] → Q (bI true) T) : k_L_isReady_154 Q dp mc ms x (nI 1) cd dd S := by
  unfold k_L_isReady_154
  refine ⟨⟨by omega, by omega⟩, q_R_types (w := 2) (by decide) h (by decide) (fun U h => ?_)⟩
  refine ⟨⟨by omega, by omega⟩, q_R_types (w := 5) (by decide) h (by decide) (fun U h => ?_)⟩
  refine ⟨fun c => absurd c (by decide), fun _ => ?_⟩
  refine ⟨RY_x h, 240, 2200, by omega, by omega, RY_near h (f := 0) (sl := 2) (b := false) (by decide) (by decide) (WSo_s (w := 5) (WSo_s (w := 2) WSo_0 (by decide)) (by decide)) (tk := [(tcN 0, 0), (tcN 3, 1)]) rfl rfl (by decide) (by decide) (by decide) (by decide) (by decide) (by decide) (r := 1) rfl (fun U h => ⟨fun c => absurd rfl c, fun _ => ?_⟩)⟩
  refine ⟨RY_x h, 10, 300, by omega, by omega, RY_query h (by decide) (by decide) (by decide) (by decide) (r := 3) rfl (qs' := qs6.take 4) rfl (fun U h => ⟨fun c => absurd rfl c, fun _ => ?_⟩)⟩
  refine ⟨RY_x h, ⟨by omega, by omega⟩, RY_type h (y := 114) (by decide) (by decide) (fun U h => ⟨fun c => absurd rfl c, fun _ => ?_⟩)⟩
  refine ⟨RY_x h, ⟨by omega, by omega⟩, RY_type h (y := 85) (by decide) (by decide) (fun U h => ⟨fun c => absurd rfl c, fun _ => ?_⟩)⟩
  refine ⟨RY_x h, 240, 2200, by omega, by omega, RY_prefix h (f := 0) (w := wdc [114, 117] 0) (by decide) (by decide +kernel) (by decide +kernel) (by decide) (by decide) (by decide) (by decide) (by decide) (r := 1) rfl (fun U h => ⟨fun c => absurd rfl c, fun _ => ?_⟩)⟩
  refine ⟨RY_x h, 10, 300, by omega, by omega, RY_query h (by decide) (by decide) (by decide) (by decide) (r := 4) rfl (qs' := qs6.take 5) rfl (fun U h => ⟨fun c => absurd rfl c, fun _ => ?_⟩)⟩
  refine ⟨RY_x h, ⟨by omega, by omega⟩, RY_type h (y := 63) (by decide) (by decide) (fun U h => ⟨fun c => absurd rfl c, fun _ => ?_⟩)⟩
  refine ⟨RY_x h, ⟨by omega, by omega⟩, RY_type h (y := 111) (by decide) (by decide) (fun U h => ⟨fun c => absurd rfl c, fun _ => ?_⟩)⟩
  refine ⟨RY_x h, ⟨by omega, by omega⟩, RY_type h (y := 42) (by decide) (by decide) (fun U h => ⟨fun c => absurd rfl c, fun _ => ?_⟩)⟩
  refine ⟨RY_x h, ⟨by omega, by omega⟩, RY_type h (y := 115) (by decide) (by decide) (fun U h => ⟨fun c => absurd rfl c, fun _ => ?_⟩)⟩
  refine ⟨RY_x h, 240, 2200, by omega, by omega, RY_wild h (f := 1) (pt := [37, pfN 111, 38, pfN 115]) (by decide) (by decide) (by decide +kernel) (by decide +kernel) (by decide) (by decide) (by decide) (by decide) (by decide) (r := 1) rfl (fun U h => ⟨fun c => absurd rfl c, fun _ => ?_⟩)⟩
  refine ⟨RY_x h, 10, 300, by omega, by omega, RY_query h (by decide) (by decide) (by decide) (by decide) (r := 5) rfl (qs' := qs6.take 6) rfl (fun U h => ⟨fun c => absurd rfl c, fun _ => ?_⟩)⟩
  refine ⟨RY_x h, ⟨by omega, by omega⟩, RY_type h (y := 99) (by decide) (by decide) (fun U h => ⟨fun c => absurd rfl c, fun _ => ?_⟩)⟩
  refine ⟨RY_x h, ⟨by omega, by omega⟩, RY_type h (y := 111) (by decide) (by decide) (fun U h => ⟨fun c => absurd rfl c, fun _ => ?_⟩)⟩
  refine ⟨RY_x h, ⟨by omega, by omega⟩, RY_type h (y := 116) (by decide) (by decide) (fun U h => ⟨fun c => absurd rfl c, fun _ => ?_⟩)⟩
  refine ⟨RY_x h, 240, 2200, by omega, by omega, RY_fuzzy h (f := 0) (sl := 1) (w := wdc [99, 111, 116] 0) (by decide) (by decide +kernel) (by decide +kernel) (by decide) (by decide) (by decide) (by decide) (by decide) (by decide) (r := 1) rfl (fun U h => ⟨fun c => absurd rfl c, fun _ => ?_⟩)⟩
  refine ⟨RY_x h, 10, 300, by omega, by omega, RY_query h (by decide) (by decide) (by decide) (by decide) (r := 6) rfl (qs' := qs6.take 7) rfl (fun U h => ⟨fun c => absurd rfl c, fun _ => ?_⟩)⟩
  exact rd_336 h (by omega) (by omega) hm hs hQ
theorem rd_110 (h : RY S0 ρ0 dp x 1 A6 1 F6 G6 0 nd0 (qs6.take 2) S []) (hc : cd ≤ 560) (hd : dd ≤ 6100) (hm : 3300 ≤ mc) (hs : 33000 ≤ ms) (hQ : ∀ T, RY S0 ρ0 dp x 1 A6 1 F6 G6 0 nd0 qs6 T [] → Q (bI true) T) : k_L_isReady_110 Q dp mc ms x (nI 1) cd dd S := by
  unfold k_L_isReady_110
  refine ⟨⟨by omega, by omega⟩, q_R_types (w := 1) (by decide) h (by decide) (fun U h => ?_)⟩
  refine ⟨⟨by omega, by omega⟩, q_R_types (w := 7) (by decide) h (by decide) (fun U h => ?_)⟩
  refine ⟨⟨by omega, by omega⟩, q_R_types (w := 4) (by decide) h (by decide) (fun U h => ?_)⟩
  refine ⟨fun c => absurd c (by decide), fun _ => ?_⟩
  refine ⟨RY_x h, 240, 2200, by omega, by omega, RY_phrase h (f := 0) (sl := 1) (by decide) (by decide) (WSo_s (w := 4) (WSo_s (w := 7) (WSo_s (w := 1) WSo_0 (by decide)) (by decide)) (by decide)) (tk := [(tcN 0, 0), (tcN 2, 2)]) rfl ⟨by decide, by decide⟩ (by decide) (by decide) (by decide) (by decide) (by decide) (by decide) (r := 1) rfl (fun U h => ⟨fun c => absurd rfl c, fun _ => ?_⟩)⟩
  refine ⟨RY_x h, 10, 300, by omega, by omega, RY_query h (by decide) (by decide) (by decide) (by decide) (r := 2) rfl (qs' := qs6.take 3) rfl (fun U h => ⟨fun c => absurd rfl c, fun _ => ?_⟩)⟩
  exact rd_154 h (by omega) (by omega) hm hs hQ
theorem rd_78 (h : RY S0 ρ0 dp x 1 A6 1 F6 G6 0 nd0 (qs6.take 1) S []) (hc : cd ≤ 310) (hd : dd ≤ 3600) (hm : 3300 ≤ mc) (hs : 33000 ≤ ms) (hQ : ∀ T, RY S0 ρ0 dp x 1 A6 1 F6 G6 0 nd0 qs6 T [] → Q (bI true) T) : k_L_isReady_78 Q dp mc ms x (nI 1) cd dd S := by
  unfold k_L_isReady_78
  refine ⟨⟨by omega, by omega⟩, q_R_types (w := 4) (by decide) h (by decide) (fun U h => ?_)⟩
  refine ⟨fun c => absurd c (by decide), fun _ => ?_⟩
  refine ⟨RY_x h, 240, 2200, by omega, by omega, RY_term h (f := 1) (by decide) (by decide) (WSo_s (w := 4) WSo_0 (by decide)) (tk := [(tcN 2, 0)]) rfl rfl (by decide) (by decide) (by decide) (by decide) (by decide) (r := 1) rfl (fun U h => ⟨fun c => absurd rfl c, fun _ => ?_⟩)⟩
  refine ⟨RY_x h, 10, 300, by omega, by omega, RY_query h (by decide) (by decide) (by decide) (by decide) (r := 1) rfl (qs' := qs6.take 2) rfl (fun U h => ⟨fun c => absurd rfl c, fun _ => ?_⟩)⟩
  exact rd_110 h (by omega) (by omega) hm hs hQ
theorem rd_47 (h : RY S0 ρ0 dp x 1 A6 1 F6 G6 0 nd0 (qs6.take 0) S []) (hc : cd ≤ 60) (hd : dd ≤ 1100) (hm : 3300 ≤ mc) (hs : 33000 ≤ ms) (hQ : ∀ T, RY S0 ρ0 dp x 1 A6 1 F6 G6 0 nd0 qs6 T [] → Q (bI true) T) : k_L_isReady_47 Q dp mc ms x (nI 1) cd dd S := by
  unfold k_L_isReady_47
  refine ⟨⟨by omega, by omega⟩, q_R_types (w := 1) (by decide) h (by decide) (fun U h => ?_)⟩
  refine ⟨fun c => absurd c (by decide), fun _ => ?_⟩
  refine ⟨RY_x h, 240, 2200, by omega, by omega, RY_term h (f := 0) (by decide) (by decide) (WSo_s (w := 1) WSo_0 (by decide)) (tk := [(tcN 0, 0)]) rfl rfl (by decide) (by decide) (by decide) (by decide) (by decide) (r := 1) rfl (fun U h => ⟨fun c => absurd rfl c, fun _ => ?_⟩)⟩
  refine ⟨RY_x h, 10, 300, by omega, by omega, RY_query h (by decide) (by decide) (by decide) (by decide) (r := 0) rfl (qs' := qs6.take 1) rfl (fun U h => ⟨fun c => absurd rfl c, fun _ => ?_⟩)⟩
  exact rd_78 h (by omega) (by omega) hm hs hQ
theorem rd_19 (h : RY S0 ρ0 dp x 1 A6 0 (fun _ => 0) (fun _ => 0) 0 nd0 (qs6.take 0) S []) (hc : cd ≤ 56) (hd : dd ≤ 1055) (hm : 3300 ≤ mc) (hs : 33000 ≤ ms) (hQ : ∀ T, RY S0 ρ0 dp x 1 A6 1 F6 G6 0 nd0 qs6 T [] → Q (bI true) T) : k_L_isReady_19 Q dp mc ms x (nI 1) cd dd S := by
  unfold k_L_isReady_19
  refine ⟨⟨by omega, by omega⟩, q_R_types (w := 2) (by decide) h (by decide) (fun U h => ?_)⟩
  refine ⟨⟨by omega, by omega⟩, q_R_types (w := 4) (by decide) h (by decide) (fun U h => ?_)⟩
  refine ⟨fun c => absurd c (by decide), fun _ => ?_⟩
  refine ⟨RY_x h, 4, 45, by omega, by omega, RY_syn h (by decide) (by decide) (fun U h => ⟨fun c => absurd rfl c, fun _ => ?_⟩)⟩
  exact rd_47 h (by omega) (by omega) hm hs hQ
theorem rd_all (h : RY S0 ρ0 dp x 0 (fun _ => 0) 0 (fun _ => 0) (fun _ => 0) 0 nd0 (qs6.take 0) S []) (hm : 3300 ≤ mc) (hs : 33000 ≤ ms) (hQ : ∀ T, RY S0 ρ0 dp x 1 A6 1 F6 G6 0 nd0 qs6 T [] → Q (bI true) T) : k_L_isReady Q dp mc ms x S := by
  unfold k_L_isReady
  refine ⟨⟨by omega, by omega⟩, q_R_types (w := 7) (by decide) h (by decide) (fun U h => ?_)⟩
  refine ⟨RY_x h, 4, 45, by omega, by omega, RY_stop h (by decide) (by decide) (fun U h => ⟨fun c => absurd rfl c, fun _ => ?_⟩)⟩
  exact rd_19 h (by omega) (by omega) hm hs hQ
end LRZ
