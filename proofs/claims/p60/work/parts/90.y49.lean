/-! the class: a snapshot is shut -/
section SH
variable {S T : cS} {ρ ρ' : Nat → Nat} {dp x made : Nat} {so : Nat → Nat} {sd : Nat → List Nat} {sg : Nat → List Dc} {B : List Dc} {ix : Vw} {mg : Option (Vw × Nat)} {cm pr : Option Vw} {sn : List (Nat × Vw)} {op fi w : Nat} {cc : Option Nat} {off : Bool}
theorem parL_era {α β : Type} {R : α → β → Prop} : ∀ {l : List α} {m : List β} (i : Nat), parL R l m → parL R (l.eraseIdx i) (m.eraseIdx i)
  | [], [], _, _ => by rw [List.eraseIdx_nil, List.eraseIdx_nil]; trivial
  | _ :: _, _ :: _, 0, h => h.2
  | _ :: _, _ :: _, i + 1, h => ⟨h.1, parL_era i h.2⟩
  | [], _ :: _, _, h => absurd h id
  | _ :: _, [], _, h => absurd h id
theorem mem_era {α : Type} {l : List α} {i : Nat} {x : α} (h : x ∈ l.eraseIdx i) : x ∈ l := (List.eraseIdx_sublist l i).subset h
theorem g_shut {Q : Int32 → cS → Prop} {mc ms i : Nat} {s : Nat × Vw} (g : gIx S ρ dp x so sd sg made B ix mg cm pr sn op fi w cc off) (hM : ixM made ix mg cm pr sn) (hi : sn[i]? = some s) (h31 : ∀ t, t ∈ sn → t.1 < 2 ^ 31) (hnd : (sn.map (fun t => t.1)).Nodup) (hmade : made ≤ 1000) (hmg : mgC mg < 1000) (hm : 1 ≤ mc) (hs : made ≤ ms) (h : ∀ U ρ', evI S U ρ ρ' x → gIx U ρ' dp x so sd sg made B ix mg cm pr (sn.eraseIdx i) op fi w cc off → Q (nI (fiN sg ix mg cm pr (sn.eraseIdx i))) U) : k_X11_shut Q dp mc ms x (nI s.1) S := by
  have inj : ∀ {j k : Nat} {t u : Nat × Vw}, sn[j]? = some t → sn[k]? = some u → t.1 = u.1 → j = k := by
    intro j k t u h1 h2 e
    have a1 : (sn.map (fun t => t.1))[j]? = some t.1 := by rw [List.getElem?_map, h1]; rfl
    have a2 : (sn.map (fun t => t.1))[k]? = some t.1 := by rw [List.getElem?_map, h2, e]; rfl
    exact (List.getElem?_inj (get_lt a1) hnd).mp (a1.trans a2.symm)
  unfold k_X11_shut
  refine ⟨g.1.1, ⟨by omega, by omega⟩, g_snapOf g ⟨s, List.mem_of_getElem? hi, rfl⟩ (fun l j V t gn gp hV ht e gV => ?_)⟩
  have e' := (nI_eq (h31 t (List.mem_of_getElem? ht)) (h31 s (List.mem_of_getElem? hi))).mp e
  obtain rfl : j = i := inj ht hi e'
  obtain rfl : t = s := Option.some.inj (ht.symm.trans hi)
  obtain ⟨⟨hx, hρ, hdp⟩, gs, gb, ⟨W, e355, gv⟩, ⟨go, e357⟩, gc, gpr, -, i361, i366, i367, i368, i369, i370⟩ := id g
  obtain ⟨sl, sm, e360, gl1, gl2, gl3⟩ := gn
  have hll := parL_len gp
  have hl8 : l.length < 8000 := by have := gl1.2.2.1; have := gl1.2.2.2.1; omega
  -- views are different
  have vne : ∀ {k : Nat} {W' : Nat}, l[k]? = some W' → W' = V → k = j := by
    intro k W' hk ew
    obtain ⟨u, hu⟩ := get_ex (l := sn) (k := k) (by have := get_lt hk; omega)
    have c1 := (parL_get gp hk hu).2
    have c2 := (parL_get gp hV hi).2
    rw [ew, c2] at c1
    exact inj hu hi ((nI_eq (h31 _ (List.mem_of_getElem? hi)) (h31 _ (List.mem_of_getElem? hu))).mp c1).symm
  refine ⟨hx, sl, e360, gl1.1, ⟨by omega, by omega⟩, q_lsize gl1 ?_⟩
  rintro _ rfl
  have hjl := get_lt hV
  unfold k_X11_shut_16L
  show lfp _ (x, V, nM l.length, 0, 0, S)
  refine lfp_cnt l.length (fun c y => ∃ S' ρ' l' sn', ((j < l.length - c ∧ S' = S ∧ ρ' = ρ ∧ l' = l ∧ sn' = sn) ∨ (l.length - c ≤ j ∧ l' = l.eraseIdx j ∧ sn' = sn.eraseIdx j)) ∧ evI S S' ρ ρ' x ∧ gIx S' ρ' dp x so sd sg made B ix mg cm pr sn' op fi w cc off ∧ cr S' 360 x = some sl ∧ lsT S' dp sl 10 l' sm ∧ y = (x, V, nM (l.length - c), 0, 0, S')) ?_ ⟨S, ρ, l, sn, Or.inl ⟨by omega, rfl, rfl, rfl, rfl⟩, ⟨fr_rf, fun _ _ => rfl, hρ⟩, g, e360, gl1, rfl⟩
  rintro P c _ hc ⟨S', ρ', l', sn', hd, ev, g', r360, t', rfl⟩ ih
  show k_X11_shut_16 Q dp mc ms _ x V (nM (l.length - c)) 0 0 S'
  have hx' := g'.1.1
  unfold k_X11_shut_16
  obtain ⟨k, hk⟩ : ∃ k, k = l.length - c := ⟨_, rfl⟩
  rw [← hk] at hd ⊢
  cases k with
  | zero =>
    have hd2 : sn' = sn.eraseIdx j := by
      rcases hd with q | q
      · omega
      · exact q.2.2
    subst hd2
    have hM' : ixM made ix mg cm pr (sn.eraseIdx j) := ⟨hM.1, hM.2.1, hM.2.2.1, hM.2.2.2.1, fun u hu => hM.2.2.2.2 u (mem_era hu)⟩
    refine ⟨fun _ => ⟨hx', mc, ms, by omega, by omega, g_fileCount g' hM' hmade hmg hm hs (fun T ρ2 f => ⟨⟨by omega, by omega⟩, ?_⟩)⟩, fun c => absurd (by decide) c⟩
    obtain ⟨gT, eT⟩ := gIx_0 f hM' g'
    exact h T ρ2 (evI_tr ev eT) gT
  | succ k =>
    rw [nM_s]
    have hkl : k < l.length := by omega
    refine w_pos k ?_
    have go41 : ∀ (U : cS) (ρ2 : Nat → Nat) (l2 : List Nat) (sn2 : List (Nat × Vw)), ((j < k ∧ U = S ∧ ρ2 = ρ ∧ l2 = l ∧ sn2 = sn) ∨ (k ≤ j ∧ l2 = l.eraseIdx j ∧ sn2 = sn.eraseIdx j)) → evI S U ρ ρ2 x → gIx U ρ2 dp x so sd sg made B ix mg cm pr sn2 op fi w cc off → cr U 360 x = some sl → lsT U dp sl 10 l2 sm → k_X11_shut_41 Q dp mc ms (fun b0 b1 b2 b3 b4 S => P (b0, b1, b2, b3, b4, S)) x V (nI k) 0 0 U := by
      intro U ρ2 l2 sn2 q1 q2 q3 q4 q5
      unfold k_X11_shut_41
      rintro _ rfl
      rw [nI_m1]
      have ek : l.length - (c + 1) = k := by omega
      exact ih _ (by omega) ⟨U, ρ2, l2, sn2, by rw [ek]; exact q1, q2, q3, q4, q5, by rw [ek]⟩
    rcases hd with ⟨q0, rfl, rfl, rfl, rfl⟩ | ⟨q0, rfl, rfl⟩
    · obtain ⟨W', hW'⟩ := get_ex hkl
      refine ⟨hx', sl, r360, t'.1, ⟨by omega, by omega⟩, q_lget t' hW' ⟨fun ne => ?_, fun ew => ?_⟩⟩
      · have : k ≠ j := fun e => ne (by rw [e, hV] at hW'; exact (Option.some.inj hW').symm)
        exact go41 _ _ _ _ (Or.inl ⟨by omega, rfl, rfl, rfl, rfl⟩) ev g' r360 t'
      · obtain rfl : k = j := vne hW' ew
        refine ⟨hx', sl, r360, t'.1, ⟨by omega, by omega⟩, q_lremove t' hW' (fun U v u => ?_)⟩
        have nls : ∀ z, lsF S' dp sl z → ρ' z = 14 := gl2
        obtain ⟨ρ2, hρ2⟩ : ∃ r, r = rtg S' id ρ' 14 := ⟨_, rfl⟩
        have f : fr S' U ρ' ρ2 [14] := ⟨sub_wk v.1 (fun z _ hz => by rw [nls z hz]; decide), fun a ha _ => by rw [hρ2]; exact rtg_o ha⟩
        have nx : ρ' x ∉ [14] := by rw [hρ]; decide
        have r : ∀ q, cr U q x = cr S' q x := fun q => fr_cr f hx nx
        have ii : ∀ q, ci U q x = ci S' q x := fun q => fr_ci f hx nx
        have x2 : ρ2 x = 1 := fr_tg f hx.1 hρ (by decide)
        have gsU := gSegs_fr (fr_fk f (by decide)) (by decide) gs
        refine go41 U ρ2 _ _ (Or.inr ⟨Nat.le_refl _, rfl, rfl⟩) ⟨fr_up f rfl, fun q _ => r q, x2⟩ ⟨⟨fr_A f hx, x2, dp_O⟩, gsU, gBf_fr f (by decide) (by decide) (r _) gb, ⟨W, (r _).trans e355, gVw_fr f (by decide) (by decide) gsU hM.1 gv⟩, ⟨?_, (ii _).trans e357⟩, ?_, ?_, ⟨l'.eraseIdx k, ⟨sl, sm, (r _).trans e360, u, fun z hz => ?_, gl3⟩, parL_imp2 (fun W2 u2 hu2 g2 => ⟨gVw_fr f (by decide) (by decide) gsU (hM.2.2.2.2 u2 (mem_era hu2)) g2.1, (gVw_ci f (by decide) g2.1).trans g2.2⟩) (parL_era k gp)⟩, (ii _).trans i361, (ii _).trans i366, (ii _).trans i367, (ii _).trans i368, (ii _).trans i369, (ii _).trans i370⟩ ((r _).trans r360) u
        · rw [r]; exact gOv_fr f (by decide) gsU hM.2.1 go
        · rw [r]; exact gOv_fr f (by decide) gsU hM.2.2.1 gc
        · rw [r]; exact gOv_fr f (by decide) gsU hM.2.2.2.1 gpr
        · rw [hρ2]
          rcases v.2 z hz with y | y
          · exact (rtg_o (lsF_in t' y)).trans (nls z y)
          · exact rtg_n y
    · have hkj : k < j := by omega
      obtain ⟨W', hW'⟩ := get_ex hkl
      have hW2 : (l.eraseIdx j)[k]? = some W' := by rw [List.getElem?_eraseIdx, if_pos hkj]; exact hW'
      refine ⟨hx', sl, r360, t'.1, ⟨by omega, by omega⟩, q_lget t' hW2 ⟨fun _ => ?_, fun ew => ?_⟩⟩
      · exact go41 _ _ _ _ (Or.inr ⟨by omega, rfl, rfl⟩) ev g' r360 t'
      · have := vne hW' ew; omega
end SH
