/-! the reference: add, delete, writes -/
theorem inB_of {x : Int32} {m : Nat} (hm : m < 2 ^ 31) (h : inB x (nI 0) (nI m) = true) : ∃ k, k ≤ m ∧ x = nI k := by
  unfold inB at h
  obtain ⟨h1, h2⟩ := Bool.and_eq_true_iff.mp h
  have c : ¬ x < nI 0 := fun w => absurd (Int32.lt_of_lt_of_le w (of_decide_eq_true h1)) Int32.lt_irrefl
  obtain ⟨k, -, k31, rfl⟩ := i32_ge (by decide) c
  exact ⟨k, (nI_leI k31 hm).mp (of_decide_eq_true h2), rfl⟩
/-- the draft, as a document -/
def rDr (l : LGt) (v : Nat → Int32) (f : Nat → Nat → Int32) (g : Nat → Nat → Int64) (d : Dc) : Prop := (v 13 = nI (dC d) ∧ dC d < 10) ∧ (v 14 = nI (dN d) ∧ dN d < 1000) ∧ rTx l (f 8) (g 7) 0 d
/-- a document with another key -/
def dcK (key : Nat) (d : Dc) : Dc := ((key, dC d, dN d), d.2)
theorem rTx_cp {l : LGt} {fp fp' : Nat → Int32} {gs gs' : Nat → Int64} {k k' : Nat} {d : Dc} {key : Nat} (e4 : ∀ fl, fl < 2 → fp' (2 * k' + fl) = fp (2 * k + fl)) (e5 : ∀ q, q < 40 → gs' (40 * k' + q) = gs (40 * k + q)) (h : rTx l fp gs k d) : rTx l fp' gs' k' (dcK key d) := by
  intro fl hfl
  obtain ⟨n, n1, n2, n3, n4⟩ := h fl hfl
  have es : ∀ q, q < n → gs' (40 * k' + (20 * fl + q)) = gs (40 * k + (20 * fl + q)) := fun q hq => e5 _ (by omega)
  refine ⟨n, n1, (e4 fl hfl).trans n2, ?_, fun q hq => ?_⟩
  · rw [show dT (dcK key d) fl = dT d fl from rfl, n3]
    have : ∀ m, m ≤ n → tkG l (fun q => gs (40 * k + (20 * fl + q))) m = tkG l (fun q => gs' (40 * k' + (20 * fl + q))) m := by
      intro m
      induction m with
      | zero => intro _; rfl
      | succ m ih =>
        intro hm
        have := ih (by omega)
        unfold tkG at this ⊢
        rw [tkL, tkL, this, es m (by omega)]
    exact this n (Nat.le_refl n)
  · rw [es q hq]; exact n4 q hq
section AD
variable {v v' : Nat → Int32} {f f' : Nat → Nat → Int32} {g g' : Nat → Nat → Int64} {l : LGt} {B : List Dc} {made dn : Nat} {sg : Nat → List Dc} {hd : Nat → Nat → Nat} {ids : List Nat} {lv : Nat → Nat → Bool} {off : Bool}
theorem p_isKey {Q : QI} {x : Int32} (h : Q (bI (inB x (nI 0) (nI 99))) v f g) : r_isKey Q x v f g := by
  unfold r_isKey
  exact p_in ⟨⟨_, rfl⟩, h⟩
theorem p_delete {Q : QI} {x : Int32} (h98 : v 98 = bI off) (hb : rBf l v f g B) (hs : rSg l v f g made dn sg hd) (hi : rIx v f made sg ids lv) (hu : ∀ key, oneK sg ids lv key) (hub : ∀ (i i' : Nat) (d d' : Dc), B[i]? = some d → B[i']? = some d' → dK d = dK d' → i = i') (hux : ∀ d, d ∈ B → ∀ (n j : Nat) (d' : Dc), n ∈ ids → (sg n)[j]? = some d' → lv n j = true → dK d' ≠ dK d) (h1 : inB x (nI 0) (nI 99) = false → Q (bI false) (upd v 99 (nI 1)) f g) (h2 : inB x (nI 0) (nI 99) = true → off = true → Q (bI false) (upd v 99 (nI 2)) f g) (h3 : ∀ key v' f' g' B' lv' b, x = nI key → key < 100 → off = false → rF [99, 20] [9, 10, 11, 13, 21] [12] v f g v' f' g' → zK f f' 21 → v' 99 = nI 0 → rBf l v' f' g' B' → rIx v' f' made sg ids lv' → dkR sg ids (nI key) B lv B' lv' b → Q (bI b) v' f' g') : r_delete Q x v f g := by
  have go : ∀ b2 : Bool, b2 = !off → r_delete_17 Q x (bI b2) (bI (inB x (nI 0) (nI 99))) v f g := by
    intro b2 hb2
    unfold r_delete_17
    refine p_goes (b3 := true) ?_
    cases e1 : inB x (nI 0) (nI 99) with
    | false => exact ⟨fun _ => h1 e1, fun c => absurd rfl c⟩
    | true =>
      cases off with
      | true => rw [hb2]; exact ⟨fun _ => h2 e1 rfl, fun c => absurd rfl c⟩
      | false =>
        rw [hb2]
        obtain ⟨key, hk, rfl⟩ := inB_of (by decide) e1
        refine ⟨fun c => absurd c (by decide), fun _ => ?_⟩
        have o : ∀ i, i ≠ 99 → upd v 99 (goX true (!false) true) i = v i := fun i hi => upd_n hi
        refine p_deletes (by omega) (rBf_fr (o 20 (by decide)) rfl rfl rfl rfl rfl hb) (rSg_fr (A := [99]) (Fm := []) (Gm := []) ⟨fun i hi => o i (fun e => hi (by rw [e]; decide)), fun _ _ => rfl, fun _ _ => rfl⟩ (by decide) (by decide) (by decide) hs) (rIx_fr (o 34 (by decide)) rfl rfl hi) (hu key) (fun i i' d d' a b c e => hub i i' d d' a b (c.trans e.symm)) (fun d hd' hdk n j d' a b c => by rw [← hdk]; exact hux d hd' n j d' a b c) (fun v' f' g' B' lv' b hF hZ hB hI hR => ?_)
        have fin := h3 key v' f' g' B' lv' b rfl (by omega) rfl ⟨fun i hi => (hF.1 i (fun w => hi (by rw [List.mem_singleton.mp w]; decide))).trans (o i (fun e => hi (by rw [e]; decide))), hF.2.1, hF.2.2⟩ hZ ((hF.1 99 (by decide)).trans upd_at) hB hI hR
        exact w_b0 b (fun e => by rw [e] at fin; exact fin) (fun e => by rw [e] at fin; exact fin)
  unfold r_delete
  refine p_isKey ?_
  rw [h98]
  exact w_bn off (fun e => go false (by rw [e]; rfl)) (fun e => go true (by rw [e]; rfl))
theorem p_add {Q : QI} {x : Int32} {dr : Dc} (h98 : v 98 = bI off) (hb : rBf l v f g B) (hs : rSg l v f g made dn sg hd) (hi : rIx v f made sg ids lv) (hdr : rDr l v f g dr) (hu : ∀ key, oneK sg ids lv key) (hub : ∀ (i i' : Nat) (d d' : Dc), B[i]? = some d → B[i']? = some d' → dK d = dK d' → i = i') (hux : ∀ d, d ∈ B → ∀ (n j : Nat) (d' : Dc), n ∈ ids → (sg n)[j]? = some d' → lv n j = true → dK d' ≠ dK d) (h1 : inB x (nI 0) (nI 99) = false → Q (nI 0) (upd v 99 (nI 1)) f g) (h2 : inB x (nI 0) (nI 99) = true → (off = true ∨ (12 ≤ B.length ∧ ∀ d, d ∈ B → nI (dK d) ≠ x)) → Q (nI 0) (upd v 99 (nI 2)) f g) (h3 : ∀ key v' f' g' B' lv' b, x = nI key → key < 100 → off = false → (B.length < 12 ∨ ∃ d, d ∈ B ∧ dK d = key) → rF [99, 20, 13, 14, 10] [8, 9, 10, 11, 13, 21] [12] v f g v' f' g' → zK f f' 21 → (v' 99 = nI 0 ∧ v' 13 = nI 0 ∧ v' 14 = nI 0 ∧ v' 10 = bI true ∧ ∀ fl, fl < 2 → f' 8 fl = nI 0) → rBf l v' f' g' (B' ++ [dcK key dr]) → rIx v' f' made sg ids lv' → dkR sg ids (nI key) B lv B' lv' b → Q (nI (B'.length + 1)) v' f' g') : r_add Q x v f g := by
  have go : ∀ b2 : Bool, (b2 = true → off = false ∧ (B.length < 12 ∨ ∃ d, d ∈ B ∧ nI (dK d) = x)) → (b2 = false → off = true ∨ (12 ≤ B.length ∧ ∀ d, d ∈ B → nI (dK d) ≠ x)) → r_add_35 Q x (bI b2) (bI (inB x (nI 0) (nI 99))) v f g := by
    intro b2 hb2 hb3
    unfold r_add_35
    refine p_goes (b3 := true) ?_
    cases e1 : inB x (nI 0) (nI 99) with
    | false => exact ⟨fun c => absurd rfl c, fun _ => h1 e1⟩
    | true =>
      cases b2 with
      | false => exact ⟨fun c => absurd rfl c, fun _ => h2 e1 (hb3 rfl)⟩
      | true =>
        obtain ⟨o1, o2⟩ := hb2 rfl
        obtain ⟨key, hk, rfl⟩ := inB_of (by decide) e1
        refine ⟨fun _ => ?_, fun c => absurd c (by decide)⟩
        have o : ∀ i, i ≠ 99 → upd v 99 (goX true true true) i = v i := fun i hi => upd_n hi
        have kB : ∀ d, d ∈ B → dK d < 100 := fun d hd' => by
          obtain ⟨i, hi'⟩ := List.getElem?_of_mem hd'
          exact (hb.2.2 i d hi').1.2
        refine p_deletes (by omega) (rBf_fr (o 20 (by decide)) rfl rfl rfl rfl rfl hb) (rSg_fr (A := [99]) (Fm := []) (Gm := []) ⟨fun i hi => o i (fun e => hi (by rw [e]; decide)), fun _ _ => rfl, fun _ _ => rfl⟩ (by decide) (by decide) (by decide) hs) (rIx_fr (o 34 (by decide)) rfl rfl hi) (hu key) (fun i i' d d' a b c e => hub i i' d d' a b (c.trans e.symm)) (fun d hd' hdk n j d' a b c => by rw [← hdk]; exact hux d hd' n j d' a b c) (fun v3 f3 g3 B' lv' b hF hZ hB hI hR => ?_)
        have lB : B'.length < 12 := by
          have b12 := hb.2.1
          rcases hR with ⟨i, d, h4, -, h5, -⟩ | ⟨h4, h5, -⟩
          · rw [h5, List.length_eraseIdx_of_lt (get_lt h4)]
            have := get_lt h4; omega
          · rw [h5]
            rcases o2 with w | ⟨d, w1, w2⟩
            · exact w
            · exact absurd w2 (h4 d w1)
        have o2' : B.length < 12 ∨ ∃ d, d ∈ B ∧ dK d = key := by
          rcases o2 with w | ⟨d, w1, w2⟩
          · exact Or.inl w
          · exact Or.inr ⟨d, w1, (nI_eq (by have := kB d w1; omega) (by omega)).mp w2⟩
        obtain ⟨c1, c2, c3⟩ := hB
        obtain ⟨⟨d1, d1'⟩, ⟨d2, d2'⟩, d3⟩ := hdr
        have e13 : v3 13 = nI (dC dr) := (hF.1 13 (by decide)).trans ((o 13 (by decide)).trans d1)
        have e14 : v3 14 = nI (dN dr) := (hF.1 14 (by decide)).trans ((o 14 (by decide)).trans d2)
        have e8 : f3 8 = f 8 := hF.2.1 8 (by decide)
        have e7 : g3 7 = g 7 := hF.2.2 7 (by decide)
        have cB : (nI B'.length).toNatClampNeg = B'.length := nI_clamp (by omega)
        have iB : vp_in (nI B'.length) 12 := pk_in B'.length 12 lB
        rw [c1, cB, e13, e14]
        refine ⟨iB, fun f4 e4 => ⟨iB, fun f5 e5 => ⟨iB, fun f6 e6 => ?_⟩⟩⟩
        have o6 : ∀ n, n ≠ 9 → n ≠ 10 → n ≠ 11 → f6 n = f3 n := fun n a1 a2 a3 => by rw [e6, mU_n a3, e5, mU_n a2, e4, mU_n a1]
        have r9 : f6 9 = fun k => if k = B'.length then nI key else f3 9 k := by rw [e6, mU_n (by decide), e5, mU_n (by decide), e4, mU_s]
        have r10 : f6 10 = fun k => if k = B'.length then nI (dC dr) else f3 10 k := by rw [e6, mU_n (by decide), e5, mU_s, e4, mU_n (by decide)]
        have r11 : f6 11 = fun k => if k = B'.length then nI (dN dr) else f3 11 k := by rw [e6, mU_s, e5, mU_n (by decide), e4, mU_n (by decide)]
        unfold r_add_88L
        refine lfp_cnt 40 (fun q y => ∃ g4, (∀ n, n ≠ 12 → g4 n = g3 n) ∧ (∀ i, i < q → g4 12 (40 * B'.length + i) = g 7 i) ∧ (∀ i, i < 40 * B'.length → g4 12 i = g3 12 i) ∧ y = (nI q, v3, f6, g4)) ?_ ⟨g3, fun _ _ => rfl, fun i hi => absurd hi (Nat.not_lt_zero i), fun _ _ => rfl, rfl⟩
        rintro P q _ hq ⟨g4, k1, k2, k3, rfl⟩ ih
        show r_add_88 Q _ (nI q) v3 f6 g4
        unfold r_add_88
        rw [c1, pk_mul, nI_add, nI_clamp (show 40 * B'.length + q < 2 ^ 31 by omega), nI_clamp (show q < 2 ^ 31 by omega)]
        refine pk_le 40 q (fun z => ?_) (fun z => ⟨pk_in q 40 z, pk_in (40 * B'.length + q) 480 (by omega), fun g14 e14' => ?_⟩)
        · obtain rfl : q = 40 := by omega
          unfold r_add_122L
          refine lfp_cnt 2 (fun i y => ∃ f7, (∀ n, n ≠ 13 → n ≠ 8 → f7 n = f6 n) ∧ (∀ j, j < i → f7 13 (2 * B'.length + j) = f 8 j ∧ f7 8 j = nI 0) ∧ (∀ j, j < 2 * B'.length → f7 13 j = f3 13 j) ∧ (∀ j, i ≤ j → f7 8 j = f 8 j) ∧ y = (nI i, v3, f7, g4)) ?_ ⟨f6, fun _ _ _ => rfl, fun j hj => absurd hj (Nat.not_lt_zero j), fun j _ => by rw [o6 13 (by decide) (by decide) (by decide)], fun j _ => by rw [o6 8 (by decide) (by decide) (by decide), e8], rfl⟩
          rintro P2 i _ hi2 ⟨f7, m1, m2, m3, m4, rfl⟩ ih2
          show r_add_122 Q _ (nI i) v3 f7 g4
          unfold r_add_122
          rw [c1, pk_mul, nI_add, nI_clamp (show 2 * B'.length + i < 2 ^ 31 by omega), nI_clamp (show i < 2 ^ 31 by omega)]
          refine pk_le 2 i (fun z2 => ?_) (fun z2 => ⟨pk_in i 2 z2, pk_in (2 * B'.length + i) 24 (by omega), fun f11 e11 => ⟨pk_in i 2 z2, fun f12 e12 => ?_⟩⟩)
          · obtain rfl : i = 2 := by omega
            rintro v7 rfl v8 rfl v9 e9 v10 e10
            have v920 : v9 20 = nI (B'.length + 1) := by rw [e9, upd_at, upd_n (by decide), upd_n (by decide), c1, nI_add]
            have v1020 : v10 20 = nI (B'.length + 1) := by rw [e10, upd_n (by decide)]; exact v920
            have vo : ∀ j, j ≠ 20 → j ≠ 13 → j ≠ 14 → j ≠ 10 → v10 j = v3 j := fun j a1 a2 a3 a4 => by rw [e10, upd_n a4, e9, upd_n a1, upd_n a3, upd_n a2]
            rw [v1020]
            have fo : ∀ n, n ≠ 8 → n ≠ 9 → n ≠ 10 → n ≠ 11 → n ≠ 13 → f7 n = f3 n := fun n a1 a2 a3 a4 a5 => (m1 n a5 a1).trans (o6 n a2 a3 a4)
            refine h3 key v10 f7 g4 B' lv' b rfl (by omega) o1 o2' ⟨fun j hj => ?_, fun n hn => ?_, fun n hn => ?_⟩ (zK_tr hZ (zK_eq (fo 21 (by decide) (by decide) (by decide) (by decide) (by decide)))) ⟨?_, ?_, ?_, ?_, fun fl hfl => (m2 fl hfl).2⟩ ⟨?_, ?_, fun k d hd' => ?_⟩ (rIx_fr (vo 34 (by decide) (by decide) (by decide) (by decide)) (fo 24 (by decide) (by decide) (by decide) (by decide) (by decide)) (fo 21 (by decide) (by decide) (by decide) (by decide) (by decide)) hI) hR
            · rw [vo j (fun e => hj (by rw [e]; decide)) (fun e => hj (by rw [e]; decide)) (fun e => hj (by rw [e]; decide)) (fun e => hj (by rw [e]; decide)), hF.1 j (fun w => hj (by rw [List.mem_singleton.mp w]; decide))]
              exact o j (fun e => hj (by rw [e]; decide))
            · rw [fo n (fun e => hn (by rw [e]; decide)) (fun e => hn (by rw [e]; decide)) (fun e => hn (by rw [e]; decide)) (fun e => hn (by rw [e]; decide)) (fun e => hn (by rw [e]; decide))]
              refine hF.2.1 n (fun w => hn ?_)
              revert w; simp only [List.mem_cons, List.not_mem_nil, or_false]; omega
            · rw [k1 n (fun e => hn (by rw [e]; decide))]
              exact hF.2.2 n hn
            · rw [vo 99 (by decide) (by decide) (by decide) (by decide), hF.1 99 (by decide)]; exact upd_at
            · rw [e10, upd_n (by decide), e9, upd_n (by decide), upd_n (by decide)]; exact upd_at
            · rw [e10, upd_n (by decide), e9, upd_n (by decide)]; exact upd_at
            · rw [e10]; exact upd_at
            · rw [v1020, List.length_append]; rfl
            · rw [List.length_append]; show B'.length + 1 ≤ 12; omega
            · rcases app1_get.mp hd' with hd' | ⟨rfl, rfl⟩
              · have kl := get_lt hd'
                refine rDc_cp ?_ ?_ ?_ (fun fl hfl => m3 _ (by omega)) (fun q hq => k3 _ (by omega)) (c3 k d hd')
                · rw [m1 9 (by decide) (by decide), r9]; exact if_neg (by omega)
                · rw [m1 10 (by decide) (by decide), r10]; exact if_neg (by omega)
                · rw [m1 11 (by decide) (by decide), r11]; exact if_neg (by omega)
              · refine ⟨⟨?_, by show key < 100; omega⟩, ⟨?_, d1'⟩, ⟨?_, d2'⟩, rTx_cp (k := 0) (fun fl hfl => ?_) (fun q hq => ?_) d3⟩
                · rw [m1 9 (by decide) (by decide), r9]; exact if_pos rfl
                · rw [m1 10 (by decide) (by decide), r10]; exact if_pos rfl
                · rw [m1 11 (by decide) (by decide), r11]; exact if_pos rfl
                · rw [(m2 fl hfl).1, Nat.mul_zero, Nat.zero_add]
                · rw [k2 q hq, Nat.mul_zero, Nat.zero_add]
          · rintro _ rfl
            rw [nI_add]
            have r13 : f12 13 = fun k => if k = 2 * B'.length + i then f7 8 i else f7 13 k := by rw [e12, mU_n (by decide), e11, mU_s]
            have r8 : f12 8 = fun k => if k = i then nI 0 else f7 8 k := by rw [e12, mU_s, e11, mU_n (by decide)]
            refine ih2 _ z2 ⟨f12, fun n a1 a2 => by rw [e12, mU_n a2, e11, mU_n a1]; exact m1 n a1 a2, fun j hj => ⟨?_, ?_⟩, fun j hj => ?_, fun j hj => ?_, rfl⟩
            · rw [r13]
              show (if 2 * B'.length + j = 2 * B'.length + i then f7 8 i else f7 13 (2 * B'.length + j)) = _
              by_cases c : j = i
              · subst c; rw [if_pos rfl]; exact m4 j (Nat.le_refl j)
              · rw [if_neg (by omega)]; exact (m2 j (by omega)).1
            · rw [r8]
              show (if j = i then nI 0 else f7 8 j) = _
              by_cases c : j = i
              · rw [if_pos c]
              · rw [if_neg c]; exact (m2 j (by omega)).2
            · rw [r13]
              show (if j = 2 * B'.length + i then _ else f7 13 j) = _
              rw [if_neg (by omega)]; exact m3 j hj
            · rw [r8]
              show (if j = i then nI 0 else f7 8 j) = _
              rw [if_neg (by omega)]; exact m4 j (by omega)
        · rintro _ rfl
          rw [nI_add]
          have r12 : g14 12 = fun k => if k = 40 * B'.length + q then g4 7 q else g4 12 k := by rw [e14', mU_s]
          refine ih _ z ⟨g14, fun n hn => by rw [e14', mU_n hn]; exact k1 n hn, fun i hi2 => ?_, fun i hi2 => ?_, rfl⟩
          · rw [r12]
            show (if 40 * B'.length + i = 40 * B'.length + q then g4 7 q else g4 12 (40 * B'.length + i)) = _
            by_cases c : i = q
            · subst c; rw [if_pos rfl, k1 7 (by decide), e7]
            · rw [if_neg (by omega)]; exact k2 i (by omega)
          · rw [r12]
            show (if i = 40 * B'.length + q then _ else g4 12 i) = _
            rw [if_neg (by omega)]; exact k3 i hi2
  unfold r_add
  refine p_isKey ?_
  rw [h98]
  refine w_bn off (fun e => ?_) (fun e => ?_)
  · unfold r_add_34
    exact go false (fun c => absurd c (by decide)) (fun _ => Or.inl e)
  · obtain ⟨b1, b2, b3⟩ := id hb
    rw [b1]
    refine pk_lt B.length 12 (fun z => go true (fun _ => ⟨e, Or.inl z⟩) (fun c => absurd c (by decide))) (fun z => ?_)
    refine p_inBufferX hb (fun i d hi' hdk => ⟨fun c => ?_, fun _ => go true (fun _ => ⟨e, Or.inr ⟨d, List.mem_of_getElem? hi', hdk⟩⟩) (fun c => absurd c (by decide))⟩) (fun hno => ⟨fun _ => ?_, fun c => absurd rfl c⟩)
    · have := nI_pos (n := i) (by have := get_lt hi'; omega)
      rw [c] at this
      exact absurd (by decide) this
    · unfold r_add_34
      exact go false (fun c => absurd c (by decide)) (fun _ => Or.inr ⟨z, hno⟩)
end AD
