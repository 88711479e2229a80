/-! the class: a merge ends -/
section EN
variable {S T : cS} {ρ ρ' : Nat → Nat} {dp x made V M p : Nat} {so : Nat → Nat} {sd : Nat → List Nat} {sg : Nat → List Dc} {ids src : List Nat} {lv lvS : Nat → Nat → Bool}
/-- a new empty list -/
theorem q_newList {Q : cS → Prop} {q kk : Nat} {S2 : cS} (hq : q ∉ cL S) (e2 : S2 = cNew S q 12) (hdp : dpO dp S) (hkk : kOb kk) (h : ∀ T, cSub S T (fun _ => False) → lsT T dp q kk [] 0 → Q T) : k_Jx4a65c_init_da8c8 Q dp q S2 := by
  have s2 : cSub S S2 (fun _ => False) := e2 ▸ sub_N hq
  refine q_linit (kk := kk) ⟨hm_No e2, hk_No e2⟩ dp_O hkk (fun S3 s3 l3 => ?_)
  exact h S3 (sub_tr s2 s3 (fun a ha z => absurd z (cm_nq hq ha))) (l3 (hi_No e2))
theorem vw_flat {f : Nat → Nat → Bool} (gs : gSegs S ρ dp so sd sg made) (h : ∀ n, n ∈ src → n < made) : parL (fun D d => gFz S ρ D d ∧ okD d) (src.flatMap (fun n => selA (f n) 0 (sd n))) (src.flatMap (fun n => selA (f n) 0 (sg n))) := by
  refine parL_flat (fun n hn => parL_sel (parL_of ?_ (fun i D d hi hd => ?_)))
  · exact (gs n (h n hn)).1.2.2.1
  · have g := gs n (h n hn)
    exact ⟨g.2.2.2.1 i D d hi hd, g.2.2.2.2.1 d (List.mem_of_getElem? hd)⟩
/-- some of the index are taken out -/
theorem gVx_cut {hl m : Nat} {hs : List Nat} (g : gVx S ρ dp so sd sg 9 10 V hl m hs ids lv) (hp : p + 3 ≤ ids.length) (f : fr S T ρ ρ' [9, 82, 83]) (hF : ∀ z, lsF T dp hl z → ρ' z = 9) (t : vwT T dp so sd sg V hl m (hs.take p ++ hs.drop (p + 3)) (ids.take p ++ ids.drop (p + 3)) lv) : gVx T ρ' dp so sd sg 9 10 V hl m (hs.take p ++ hs.drop (p + 3)) (ids.take p ++ ids.drop (p + 3)) lv := by
  obtain ⟨g1, g2, g3, g4, g5, g6⟩ := id g
  have hlen := vw_len g1
  have inh : ∀ {y : Nat}, y ∈ hs.take p ++ hs.drop (p + 3) → y ∈ hs := fun hy => by
    rcases List.mem_append.mp hy with h | h
    · exact List.mem_of_mem_take h
    · exact List.mem_of_mem_drop h
  have yA : ∀ y, y ∈ hs → cA S y 2 := fun y hy => g1.2.2.1.2.2.2.2.2.1 y hy
  have r65 : ∀ y, y ∈ hs → cr T 65 y = cr S 65 y := fun y hy => fr_cr f (yA y hy) (by rw [(g6 y hy).1]; decide)
  refine ⟨t, g2, fun i j y z r hi hj a b => ?_, fr_tg f g1.1.1 g4 (by decide), hF, fun y hy => ⟨fr_tg f (yA y (inh hy)).1 (g6 y (inh hy)).1 (by decide), fun r hr => ?_⟩⟩
  · rw [r65 y (inh (List.mem_of_getElem? hi))] at a
    rw [r65 z (inh (List.mem_of_getElem? hj))] at b
    rw [cut_get (by omega)] at hi hj
    by_cases c1 : i < p
    · rw [if_pos c1] at hi
      by_cases c2 : j < p
      · rw [if_pos c2] at hj; exact g3 i j y z r hi hj a b
      · rw [if_neg c2] at hj
        have := g3 i (j + 3) y z r hi hj a b; omega
    · rw [if_neg c1] at hi
      by_cases c2 : j < p
      · rw [if_pos c2] at hj
        have := g3 (i + 3) j y z r hi hj a b; omega
      · rw [if_neg c2] at hj
        have := g3 (i + 3) (j + 3) y z r hi hj a b; omega
  · rw [r65 y (inh hy)] at hr
    exact fr_tg f ((gVx_in g (inh hy)).2 r hr) ((g6 y (inh hy)).2 r hr) (by decide)
set_option maxHeartbeats 2000000 in
theorem g_endMerge {Q : cS → Prop} {mc ms : Nat} {L Ld : List Dc} (hx : cA S x 11) (hρ : ρ x = 1) (hdp : dpO dp S) (h366 : ci S 366 x = nI made) (hmade : made < 900) (e355 : cr S 355 x = some V) (gs : gSegs S ρ dp so sd sg made) (gv : gVw S ρ dp so sd sg 9 10 V ids lv) (hid : ∀ n, n ∈ ids → n < made) (hnd : ids.Nodup) (hlen : ids.length ≤ 300) (gM : gVw S ρ dp so sd sg 11 11 M src lvS) (hsrc : ∀ (j n : Nat), src[j]? = some n → ids[p + j]? = some n) (hs3 : src.length = 3) (hp : p + 3 ≤ ids.length) (hL : L = src.flatMap (fun n => selA (lvS n) 0 (sg n))) (hLd : Ld = src.flatMap (fun n => selA (fun j => lvS n j && !lv n j) 0 (sg n))) (hkd : ∀ (i j : Nat) (d e : Dc), L[i]? = some d → L[j]? = some e → dK d = dK e → i = j) (hK : L.length ≤ 100) (hm : 610 * L.length + 300 ≤ mc) (hs : 7000 * L.length + 6000 ≤ ms)
    (h0 : ∀ T ρ', L = [] → fr S T ρ ρ' [1, 9, 81, 82, 83, 84, 85] → gSegs T ρ' dp so sd sg made → gVw T ρ' dp so sd sg 9 10 V (ids.take p ++ ids.drop (p + 3)) lv → cr T 356 x = none → ci T 357 x = nI 0 → (∀ q, q ≠ 357 → ci T q x = ci S q x) → (∀ q, q ≠ 356 → cr T q x = cr S q x) → ρ' x = 1 → Q T)
    (h1 : ∀ T ρ' A ds, L ≠ [] → fr S T ρ ρ' [1, 9, 81, 82, 83, 84, 85] → gSegs T ρ' dp (upR so made A) (upR sd made ds) (upR sg made L) (made + 1) → gVw T ρ' dp (upR so made A) (upR sd made ds) (upR sg made L) 9 10 V (ids.take p ++ made :: ids.drop (p + 3)) (fun n j => if n = made then mvF L (Ld.map dK) j else lv n j) → cr T 356 x = none → ci T 357 x = nI 0 → ci T 366 x = nI (made + 1) → (∀ q, q ∉ [357, 366] → ci T q x = ci S q x) → (∀ q, q ≠ 356 → cr T q x = cr S q x) → ρ' x = 1 → Q T) : k_X11_endMerge Q dp mc ms x M S := by
  have nf : ¬ False := fun z => z
  have hsrcid : ∀ n, n ∈ src → n ∈ ids := fun n hn => by
    obtain ⟨j, hj⟩ := List.getElem?_of_mem hn
    exact List.mem_of_getElem? (hsrc j n hj)
  have hsrcm : ∀ n, n ∈ src → n < made := fun n hn => hid n (hsrcid n hn)
  unfold k_X11_endMerge
  refine ⟨⟨by omega, by omega⟩, fun q1 hq1 S2 e2 => ⟨⟨by omega, by omega⟩, q_newList (kk := 0) hq1 e2 hdp (Or.inl rfl) (fun S3 s3 l3 => ⟨⟨by omega, by omega⟩, fun q4 hq4 S5 e5 => ⟨⟨by omega, by omega⟩, q_newList (kk := 0) hq4 e5 dp_O (Or.inl rfl) (fun S6 s36 l6 => ?_)⟩⟩)⟩⟩
  have s6 : cSub S S6 (fun _ => False) := sub_tr s3 s36 (fun _ _ z => z)
  have nq4 : q4 ∉ cL S := fun z => hq4 (s3 q4 z).1.1
  have q14 : q1 ≠ q4 := fun e => hq4 (e ▸ l3.1.1)
  have l3' : lsT S6 dp q1 0 [] 0 := lsT_sub s36 l3 (fun _ _ => nf)
  obtain ⟨ρ1, hρ1⟩ : ∃ r : Nat → Nat, r = fun a => if a ∈ cL S then ρ a else if a = q1 then 82 else 83 := ⟨_, rfl⟩
  have o1 : ∀ a, a ∈ cL S → ρ1 a = ρ a := fun a ha => by rw [hρ1]; exact if_pos ha
  have t1 : ρ1 q1 = 82 := by rw [hρ1]; show (if q1 ∈ cL S then ρ q1 else if q1 = q1 then 82 else 83) = 82; rw [if_neg hq1, if_pos rfl]
  have t4 : ρ1 q4 = 83 := by rw [hρ1]; show (if q4 ∈ cL S then ρ q4 else if q4 = q1 then 82 else 83) = 83; rw [if_neg nq4, if_neg (Ne.symm q14)]
  have f6 : fr S S6 ρ ρ1 [] := ⟨sub_wk s6 (fun _ _ z => z.elim), fun a ha _ => o1 a ha⟩
  have x6 := fr_A f6 hx
  have r6 : ∀ q, cr S6 q x = cr S q x := fun q => fr_cr f6 hx (by simp)
  have i6 : ∀ q, ci S6 q x = ci S q x := fun q => fr_ci f6 hx (by simp)
  have gs6 := gSegs_fr (fr_fk f6 (by decide)) (by decide) gs
  obtain ⟨hl, vm, hs', gx⟩ := gVw_fr f6 (by decide) (by decide) gs6 hid gv
  obtain ⟨hlM, vmM, hsM, gxM⟩ := gVw_fr f6 (by decide) (by decide) gs6 hsrcm gM
  have la : lsG S6 ρ1 dp q1 82 [] 0 := ⟨l3', fun z hz => by rw [ls0_F l3' hz]; exact t1, Or.inl rfl, by decide⟩
  have ld : lsG S6 ρ1 dp q4 83 [] 0 := ⟨l6, fun z hz => by rw [ls0_F l6 hz]; exact t4, Or.inl rfl, by decide⟩
  have hvl := vw_len gx.1
  have hsum : sumL (fun n => cntB (lvS n) (sg n).length) src ≤ 100 := by
    have : ∀ l : List Nat, sumL (fun n => cntB (lvS n) (sg n).length) l = (l.flatMap (fun n => selA (lvS n) 0 (sg n))).length := by
      intro l
      induction l with
      | nil => rfl
      | cons n l ih =>
        have h2 := selA_len (f := lvS n) (l := sg n) (k := (sg n).length) (Nat.le_refl _)
        rw [List.take_length] at h2
        rw [List.flatMap_cons, List.length_append, sumL, ih, h2]
    rw [this src, ← hL]; exact hK
  refine ⟨x6, V, (r6 _).trans e355, gx.1.1, 210, 4200, by omega, by omega, ?_⟩
  refine q_takeOut gx.1 gxM.1 hnd hsrc hs3 hp la ld dp_O (Nat.le_refl _) (Nat.le_refl _) hsum gx.2.2.2.1 gx.2.2.2.2.1 gx.2.2.2.2.2 gxM.2.2.2.1 gxM.2.2.2.2.1 gxM.2.2.2.2.2 (fun n hn => ?_) (fun S10 ρ10 m1 m2 s10 h10 hF10 v10 la10 ld10 => ?_)
  · have g := gs6 n (hid n hn)
    refine ⟨g.2.1, fun D hD => ?_, g.2.2.1⟩
    obtain ⟨i, hi⟩ := List.getElem?_of_mem hD
    obtain ⟨d, hd⟩ := get_ex (l := sg n) (k := i) (by have := get_lt hi; have := g.1.2.2.1; omega)
    exact (g.2.2.2.1 i D d hi hd).2.1
  have f610 : fr S6 S10 ρ1 ρ10 [9, 82, 83] := ⟨sub_wk s10 (fun z _ hz => by rcases hz with e | e | e <;> rw [e] <;> decide), fun a ha _ => h10 a ha⟩
  have f10 : fr S S10 ρ ρ10 [9, 82, 83] := fr_mix (fr_up f6 rfl) f610
  have x10 := fr_A f10 hx
  have ρx10 : ρ10 x = 1 := fr_tg f10 hx.1 hρ (by decide)
  have r10 : ∀ q, cr S10 q x = cr S q x := fun q => fr_cr f10 hx (by rw [hρ]; decide)
  have i10 : ∀ q, ci S10 q x = ci S q x := fun q => fr_ci f10 hx (by rw [hρ]; decide)
  have gs10 := gSegs_fr (fr_fk f10 (by decide)) (by decide) gs
  have gx10 := gVx_cut gx hp f610 hF10 v10
  have hid10 : ∀ n, n ∈ ids.take p ++ ids.drop (p + 3) → n < made := fun n hn => by
    rcases List.mem_append.mp hn with h | h
    · exact hid n (List.mem_of_mem_take h)
    · exact hid n (List.mem_of_mem_drop h)
  have par := vw_flat (f := lvS) gs10 hsrcm
  have parD := vw_flat (f := fun n j => lvS n j && !lv n j) gs10 hsrcm
  rw [← hL] at par
  rw [← hLd] at parD
  have hbl := parL_len par
  obtain ⟨bs, hbs⟩ : ∃ b, b = src.flatMap (fun n => selA (lvS n) 0 (sd n)) := ⟨_, rfl⟩
  obtain ⟨bd, hbd⟩ : ∃ b, b = src.flatMap (fun n => selA (fun j => lvS n j && !lv n j) 0 (sd n)) := ⟨_, rfl⟩
  rw [← hbs] at par la10 hbl
  rw [← hbd] at parD ld10
  refine ⟨la10.1.1, ⟨by omega, by omega⟩, q_lempty la10.1 (w_bn _ (fun c => ?_) (fun c => ?_))⟩
  · have c : bs.length = 0 := beq_iff_eq.mp c
    have cL0 : L = [] := List.eq_nil_of_length_eq_zero (by omega)
    refine q_em112 x10 ρx10 (by omega) (by omega) (fun U fU u1 u2 u3 u4 => ?_)
    have gsU := gSegs_fr (fr_fk fU (by decide)) (by decide) gs10
    refine h0 U ρ10 cL0 (fr_mix (fr_up f10 rfl) (fr_up fU rfl)) gsU (gVw_fr fU (by decide) (by decide) gsU hid10 ⟨hl, vm, _, gx10⟩) u1 u2 (fun q hq => (u4 q hq).trans (i10 q)) (fun q hq => (u3 q hq).trans (r10 q)) ρx10
  have c : bs.length ≠ 0 := beq_eq_false_iff_ne.mp c
  have cL1 : L ≠ [] := fun e => c (by rw [hbl, e]; rfl)
  have dp10 : dpO dp S := dp_O
  refine ⟨x10, bs.length + 6, 6 * bs.length + 53, by omega, by omega, ?_⟩
  refine q_newSegment x10 ρx10 dp10 ((i10 _).trans h366) la10.1 (by omega) (Nat.le_refl _) (Nat.le_refl _) (fun S16 ρ16 A w0 w1 f16 nA sN l0 l1 tw0 tw1 c366 ci16 cr16 ρx16 => ?_)
  have x16 := fr_A f16 x10
  have hd16 : ∀ (i D : Nat) (d : Dc), bs[i]? = some D → L[i]? = some d → gFz S16 ρ16 D d := fun i D d hi hd => gFz_fr f16 (by decide) (parL_get par hi hd).1
  have hok : ∀ d, d ∈ L → okD d := fun d hd => by
    obtain ⟨i, hi⟩ := List.getElem?_of_mem hd
    obtain ⟨D, hD⟩ := get_ex (l := bs) (k := i) (by have := get_lt hi; omega)
    exact (parL_get par hD hi).2
  refine ⟨sN.1, 300 * L.length + 2, 3480 * L.length + 40, by omega, by omega, ?_⟩
  refine g_rts sN l0 l1 tw0 tw1 hbl hd16 hok hK dp_O (m2 := 300 * L.length + 2) (s2 := 3480 * L.length + 40) (Nat.le_refl _) (Nat.le_refl _) (Nat.le_refl _) (Nat.le_refl _) (by omega) (by omega) (fun S22 ρ22 f22 gS22 => ?_)
  have x22 := fr_A f22 x16
  have nx16 : ρ16 x ∉ [81, 84] := by rw [ρx16]; decide
  have r22 : ∀ q, cr S22 q x = cr S q x := fun q => (fr_cr f22 x16 nx16).trans ((cr16 q).trans (r10 q))
  have ρx22 := fr_tg f22 x16.1 ρx16 (by decide)
  have i22 : ∀ q, q ≠ 366 → ci S22 q x = ci S q x := fun q hq => (fr_ci f22 x16 nx16).trans ((ci16 q hq).trans (i10 q))
  have i366 : ci S22 366 x = nI (made + 1) := (fr_ci f22 x16 nx16).trans c366
  have f1022 : fr S10 S22 ρ10 ρ22 [1, 81, 84] := fr_mix (fr_up f16 rfl) (fr_up f22 rfl)
  have gs22 := gSegs_fr (fr_fk f1022 (by decide)) (by decide) gs10
  have gx22 := gVx_fr f1022 (by decide) (by decide) gs22 hid10 gx10
  have gsN := gSegs_new gs22 gS22
  have hne : ∀ m, m ∈ ids.take p ++ ids.drop (p + 3) → m ≠ made := fun m hm => by have := hid10 m hm; omega
  obtain ⟨ld22, td22⟩ := fr_ls f1022 (by decide) ld10.1 ld10.2.1
  have parD22 : parL (fun D d => cA S22 D 0 ∧ ci S22 0 D = nI (dK d) ∧ dK d < 100 ∧ ρ22 D = 8) bd Ld := parL_imp (fun D d h => by
    obtain ⟨h1, h2, h3, -⟩ := gFz_fr f1022 (by decide) h.1
    exact ⟨h1, h3, h.2.1, h2⟩) parD
  refine ⟨⟨by omega, by omega⟩, fun q23 hq23 S24 e24 => ⟨1, L.length, by omega, by omega, ?_⟩⟩
  have s24 : cSub S22 S24 (fun _ => False) := e24 ▸ sub_N hq23
  have sgA24 := sgT_sub s24 gS22.1 nf (fun _ _ _ _ => nf) (fun _ _ => nf)
  refine q_hoInit ⟨hm_No e24, hk_No e24⟩ sgA24 hK (Nat.le_refl _) (Nat.le_refl _) (fun S27 q s27 hq gh => ?_)
  have s2227 : cSub S22 S27 (fun _ => False) := sub_tr s24 s27 (fun a ha z => absurd z (cm_nq hq23 ha))
  have hqS : q ∉ cL S22 := fun z => hq (s24 q z).1.1
  have hqne : q23 ≠ q := cA_ne gh.1 gh.2.2.2.1 (by decide)
  have sgA27 := sgT_sub s2227 gS22.1 nf (fun _ _ _ _ => nf) (fun _ _ => nf)
  have ld27 : lsT S27 dp q4 0 bd m2 := lsT_sub s2227 ld22 (fun _ _ => nf)
  have nq : ∀ {z : Nat}, z ∈ cL S22 → (if z = q then (10 : Nat) else 0) ≠ 10 := fun hz => by rw [if_neg (cm_nq hqS hz)]; decide
  have lsF27 : ∀ {a z k : Nat}, cA S22 a k → lsF S27 dp a z → lsF S22 dp a z := fun ha hz => by
    unfold lsF at hz ⊢
    rw [sub_cr s2227 ha nf] at hz; exact hz
  have bdD : ∀ D, D ∈ bd → cA S22 D 0 := fun D hD => by
    obtain ⟨i, hi⟩ := List.getElem?_of_mem hD
    obtain ⟨d, hd⟩ := get_ex (l := Ld) (k := i) (by have := get_lt hi; have := parL_len parD22; omega)
    exact (parL_get parD22 hi hd).1
  have bsD : ∀ D, D ∈ bs → cA S22 D 0 := fun D hD => by
    obtain ⟨i, hi⟩ := List.getElem?_of_mem hD
    obtain ⟨d, hd⟩ := get_ex (l := L) (k := i) (by have := get_lt hi; omega)
    exact (gS22.1.2.2.2.2 i D d hi hd).1
  refine q_em68 (ρ := fun z => if z = q then 10 else 0) (n := made) (ds := bs) (L := L) (Ld := Ld) (r := q) ld27 (parL_imp (fun D d h => ⟨sub_A1 s2227 h.1, (sub_ci s2227 h.1 nf).trans h.2.1, h.2.2.1⟩) parD22) gh sgA27 hkd (if_pos rfl) (fun z hz => nq (lsF_in ld22 (lsF27 ld22.1 hz))) (fun D hD => nq (bdD D hD).1) (fun _ => hqne) ⟨nq gS22.1.1.1, fun c z hc hz => ?_, fun D hD => nq (bsD D hD).1⟩ hqne (by omega) (by omega) (fun S28 s28 gh28 => ?_)
  · rw [sub_cr s2227 gS22.1.1 nf] at hc
    obtain ⟨dl, md, k1, k2⟩ := gS22.1.2.2.2.1
    obtain rfl : dl = c := Option.some.inj (k1.symm.trans hc)
    exact nq (lsF_in k2 (lsF27 k2.1 hz))
  have s2228 : cSub S22 S28 (fun _ => False) := sub_tr s2227 s28 (fun a ha z => absurd z (cm_nq hqS ha))
  obtain ⟨ρ28, hρ28⟩ : ∃ r, r = rtg S22 id ρ22 10 := ⟨_, rfl⟩
  have f28 : fr S22 S28 ρ22 ρ28 [] := ⟨sub_wk s2228 (fun _ _ z => z.elim), fun a ha _ => by rw [hρ28]; exact rtg_o ha⟩
  have gs28 := gSegs_fr (fr_fk f28 (by decide)) (by decide) gsN
  have hid28 : ∀ n, n ∈ ids.take p ++ ids.drop (p + 3) → n < made + 1 := fun n hn => by have := hid10 n hn; omega
  obtain ⟨gv28, ur⟩ : ∃ (_ : vwT S22 dp (upR so made A) (upR sd made bs) (upR sg made L) V hl vm (hs'.take p ++ hs'.drop (p + 3)) (ids.take p ++ ids.drop (p + 3)) (fun n j => if n = made then mvF L (Ld.map dK) j else lv n j)), True := by
    refine ⟨?_, trivial⟩
    obtain ⟨a1, a2, a3, a4, a5⟩ := gx22.1
    refine ⟨a1, a2, a3, a4, fun i y n hi hn => ?_⟩
    have nn := hne n (List.mem_of_getElem? hn)
    have : (fun j => if n = made then mvF L (Ld.map dK) j else lv n j) = lv n := by
      funext j
      rw [if_neg nn]
    obtain ⟨c1, c2, c3, r, c4⟩ := a5 i y n hi hn
    rw [upR_n nn, upR_n nn, upR_n nn]
    refine ⟨c1, c2, c3, r, ?_⟩
    show hoT S22 y (so n) r (sg n).length (fun j => if n = made then mvF L (Ld.map dK) j else lv n j)
    rw [this]; exact c4
  have gxN : gVx S22 ρ22 dp (upR so made A) (upR sd made bs) (upR sg made L) 9 10 V hl vm (hs'.take p ++ hs'.drop (p + 3)) (ids.take p ++ ids.drop (p + 3)) (fun n j => if n = made then mvF L (Ld.map dK) j else lv n j) := ⟨gv28, gx22.2⟩
  have gx28 := gVx_fr f28 (by decide) (by decide) gs28 hid28 gxN
  have x28 := fr_A f28 x22
  have ρx28 : ρ28 x = 1 := fr_tg f28 x22.1 ρx22 (by decide)
  have r28 : ∀ q, cr S28 q x = cr S q x := fun q => (fr_cr f28 x22 (by simp)).trans (r22 q)
  have gh' : hoT S28 q23 (upR so made A made) q (upR sg made L made).length ((fun n j => if n = made then mvF L (Ld.map dK) j else lv n j) made) := by
    rw [upR_s, upR_s]
    have : (fun n j => if n = made then mvF L (Ld.map dK) j else lv n j) made = mvF L (Ld.map dK) := by
      funext j
      exact if_pos rfl
    rw [this]; exact gh28
  have hfr : ∀ z, z ∈ hs'.take p ++ hs'.drop (p + 3) → cr S28 65 z ≠ some q := fun z hz e => by
    have zin := gVx_in gxN hz
    have zA : cA S22 z 2 := gxN.1.2.2.1.2.2.2.2.2.1 z hz
    rw [sub_cr s2228 zA nf] at e
    exact hqS (zin.2 q e)
  have tq : ρ28 q23 = 10 := by rw [hρ28]; exact rtg_n hq23
  have tr : ρ28 q = 10 := by rw [hρ28]; exact rtg_n hqS
  have cl : (ids.take p ++ ids.drop (p + 3)).length = ids.length - 3 := cut_len hp
  refine ⟨x28, V, (r28 _).trans e355, gx28.1.1, 1, 460, by omega, by omega, ?_⟩
  refine g_vput (k := p) gx28 gs28 hid28 (Nat.lt_succ_self made) (by omega) dp_O (by omega) (by omega) gh' tq tr hfr (Nat.le_refl _) (Nat.le_refl _) (fun S32 f32 g32 => ?_)
  obtain ⟨ρ32, hρ32⟩ : ∃ r, r = rtg S28 id ρ28 9 := ⟨_, rfl⟩
  rw [← hρ32] at f32 g32
  have tkE : (ids.take p ++ ids.drop (p + 3)).take p ++ made :: (ids.take p ++ ids.drop (p + 3)).drop p = ids.take p ++ made :: ids.drop (p + 3) := by
    have hpl : (ids.take p).length = p := by rw [List.length_take]; omega
    rw [List.take_append_of_le_length (by omega), List.take_of_length_le (by omega), List.drop_append_of_le_length (by omega), List.drop_of_length_le (by omega), List.nil_append]
  rw [tkE] at g32
  have nx28 : ρ28 x ∉ [9] := by rw [ρx28]; decide
  have x32 := fr_A f32 x28
  have ρx32 : ρ32 x = 1 := fr_tg f32 x28.1 ρx28 (by decide)
  refine q_em112 x32 ρx32 (by omega) (by omega) (fun U fU u1 u2 u3 u4 => ?_)
  have fAll : fr S U ρ ρ32 [1, 9, 81, 82, 83, 84, 85] := fr_mix (fr_up f10 rfl) (fr_mix (fr_up f1022 rfl) (fr_mix (fr_up f28 rfl) (fr_mix (fr_up f32 rfl) (fr_up fU rfl))))
  have gs32 := gSegs_fr (fr_fk f32 (by decide)) (by decide) gs28
  have gsU := gSegs_fr (fr_fk fU (by decide)) (by decide) gs32
  have hidU : ∀ n, n ∈ ids.take p ++ made :: ids.drop (p + 3) → n < made + 1 := fun n hn => by
    rcases List.mem_append.mp hn with h | h
    · have := hid n (List.mem_of_mem_take h); omega
    · rcases List.mem_cons.mp h with e | e
      · omega
      · have := hid n (List.mem_of_mem_drop e); omega
  have iU : ∀ q, q ≠ 357 → ci U q x = ci S22 q x := fun q hq => (u4 q hq).trans ((fr_ci f32 x28 nx28).trans (fr_ci f28 x22 (by simp)))
  refine h1 U ρ32 A bs cL1 fAll gsU (gVw_fr fU (by decide) (by decide) gsU hidU g32) u1 u2 ((iU _ (by decide)).trans i366) (fun q hq => ?_) (fun q hq => (u3 q hq).trans ((fr_cr f32 x28 nx28).trans (r28 q))) ρx32
  have q1 : q ≠ 357 := fun e => hq (by rw [e]; decide)
  have q2 : q ≠ 366 := fun e => hq (by rw [e]; decide)
  exact (iU q q1).trans (i22 q q2)
end EN
