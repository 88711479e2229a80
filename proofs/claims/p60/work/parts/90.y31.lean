/-! what is frozen: documents, words, segments; views; the buffer -/
/-- .. and objects of postings keep all but what is read next -/
def fk (S T : cS) (ρ ρ' : Nat → Nat) (M : List Nat) : Prop := fr S T ρ ρ' M ∧ ∀ a, a ∈ cL S → ρ a = 80 → ρ' a = 80 ∧ (∀ q, q < 167 → ci T q a = ci S q a) ∧ (∀ q, cr T q a = cr S q a) ∧ ∀ q, cw T q a = cw S q a
def okD (d : Dc) : Prop := dK d < 100 ∧ dC d < 10 ∧ dN d < 1000 ∧ ∀ fl, okT (dT d fl) ∧ fcN (dT d fl) (dT d fl).length ≤ 30
/-- the tokens of the documents -/
def tlD (L : List Dc) (fl i : Nat) : List (Int64 × Nat) := match L[i]? with
  | some d => dT d fl
  | none => []
def gFz (S : cS) (ρ : Nat → Nat) (D : Nat) (d : Dc) : Prop := cA S D 0 ∧ ρ D = 8 ∧ ci S 0 D = nI (dK d) ∧ ci S 1 D = nI (dC d) ∧ ci S 2 D = nI (dN d) ∧ ∀ fl, fl < 2 → ∃ t m, cr S (3 + fl) D = some t ∧ tTk S t m (dT d fl) ∧ ∀ z, tF S t z → ρ z = 8
def gWd (S : cS) (ρ : Nat → Nat) (dp wl : Nat) (wp : List (Int64 × List (Nat × Nat))) : Prop := ∃ ws m, lsT S dp wl 5 ws m ∧ (∀ z, lsF S dp wl z → ρ z = 8) ∧ ws.length = wp.length ∧ ∀ (j p : Nat) (x : Int64 × List (Nat × Nat)), ws[j]? = some p → wp[j]? = some x → (pB S p (encN (nmN 0 x.2)) ∧ cw S 160 p = x.1 ∧ ci S 163 p = nI x.2.length ∧ okP 0 x.2) ∧ ρ p = 80 ∧ ∀ b, cr S 161 p = some b → ρ b = 8
def gSg (S : cS) (ρ : Nat → Nat) (dp A n : Nat) (ds : List Nat) (L : List Dc) : Prop := sgT S dp A n ds L ∧ ρ A = 8 ∧ (∀ b z, cr S 257 A = some b → lsF S dp b z → ρ z = 8) ∧ (∀ (i D : Nat) (d : Dc), ds[i]? = some D → L[i]? = some d → gFz S ρ D d) ∧ (∀ d, d ∈ L → okD d) ∧ L.length ≤ 100 ∧ ∀ fl, fl < 2 → ∃ wl wp, cr S (258 + fl) A = some wl ∧ gWd S ρ dp wl wp ∧ wOk wp (fun c => pstOf (tlD L fl) c L.length)
def gSegs (S : cS) (ρ : Nat → Nat) (dp : Nat) (so : Nat → Nat) (sd : Nat → List Nat) (sg : Nat → List Dc) (made : Nat) : Prop := ∀ n, n < made → gSg S ρ dp (so n) n (sd n) (sg n)
def gBf (S : cS) (ρ : Nat → Nat) (dp x : Nat) (B : List Dc) : Prop := ∃ b bs m, cr S 354 x = some b ∧ lsT S dp b 0 bs m ∧ (∀ z, lsF S dp b z → ρ z = 7) ∧ (m = 0 ∨ m = 10 ∨ m = 15) ∧ bs.length = B.length ∧ B.length ≤ 12 ∧ ∀ (i D : Nat) (d : Dc), bs[i]? = some D → B[i]? = some d → gFz S ρ D d ∧ okD d
/-- a view with tags: of its list, of the rest -/
def gVw (S : cS) (ρ : Nat → Nat) (dp : Nat) (so : Nat → Nat) (sd : Nat → List Nat) (sg : Nat → List Dc) (τl τh V : Nat) (ids : List Nat) (lv : Nat → Nat → Bool) : Prop := ∃ hl m hs, vwT S dp so sd sg V hl m hs ids lv ∧ m ≤ 620 ∧ (∀ (i j y z r : Nat), hs[i]? = some y → hs[j]? = some z → cr S 65 y = some r → cr S 65 z = some r → i = j) ∧ ρ V = τh ∧ (∀ z, lsF S dp hl z → ρ z = τl) ∧ ∀ y, y ∈ hs → ρ y = τh ∧ ∀ r, cr S 65 y = some r → ρ r = τh
section FZ
variable {S T U : cS} {ρ ρ' ρ'' : Nat → Nat} {M N : List Nat} {dp : Nat}
theorem fr_fk (h : fr S T ρ ρ' M) (hm : 80 ∉ M) : fk S T ρ ρ' M := ⟨h, fun a ha e => by
  have hn : ρ a ∉ M := by rw [e]; exact hm
  exact ⟨(h.2 a ha hn).trans e, fun q _ => (((h.1 a ha).2 hn).1 q).1, fun q => (((h.1 a ha).2 hn).1 q).2.1, fun q => (((h.1 a ha).2 hn).1 q).2.2⟩⟩
theorem fk_rf : fk S S ρ ρ M := ⟨fr_rf, fun _ _ e => ⟨e, fun _ _ => rfl, fun _ => rfl, fun _ => rfl⟩⟩
theorem fk_tr (h : fk S T ρ ρ' M) (g : fk T U ρ' ρ'' N) (hM : ∀ a, a ∈ cL S → ρ' a ∈ N → ρ a ∈ M) : fk S U ρ ρ'' M := by
  refine ⟨fr_tr h.1 g.1 hM, fun a ha e => ?_⟩
  obtain ⟨a1, a2, a3, a4⟩ := h.2 a ha e
  obtain ⟨b1, b2, b3, b4⟩ := g.2 a (h.1.1 a ha).1.1 a1
  exact ⟨b1, fun q hq => (b2 q hq).trans (a2 q hq), fun q => (b3 q).trans (a3 q), fun q => (b4 q).trans (a4 q)⟩
theorem fk_wk (h : fk S T ρ ρ' M) (hM : ∀ τ, τ ∈ M → τ ∈ N) : fk S T ρ ρ' N := ⟨fr_wk h.1 hM, h.2⟩
theorem fr_tg {a τ : Nat} (h : fr S T ρ ρ' M) (ha : a ∈ cL S) (e : ρ a = τ) (hm : τ ∉ M) : ρ' a = τ := (h.2 a ha (by rw [e]; exact hm)).trans e
theorem fr_ls {a kk m τ : Nat} {l : List Nat} (h : fr S T ρ ρ' M) (hm : τ ∉ M) (g : lsT S dp a kk l m) (ht : ∀ z, lsF S dp a z → ρ z = τ) : lsT T dp a kk l m ∧ ∀ z, lsF T dp a z → ρ' z = τ := by
  have nF : ∀ z, lsF S dp a z → ¬ ρ z ∈ M := fun z hz => by rw [ht z hz]; exact hm
  refine ⟨lsT_sub h.1 g nF, fun z hz => ?_⟩
  have hz' : lsF S dp a z := by
    unfold lsF at hz ⊢
    rw [sub_cr h.1 g.1 (nF a (Or.inl rfl))] at hz; exact hz
  exact fr_tg h (lsF_in g hz') (ht z hz') hm
theorem gFz_fr {D : Nat} {d : Dc} (h : fr S T ρ ρ' M) (hm : 8 ∉ M) (g : gFz S ρ D d) : gFz T ρ' D d := by
  obtain ⟨g1, g2, g3, g4, g5, g6⟩ := g
  have fD : ρ D ∉ M := by rw [g2]; exact hm
  refine ⟨fr_A h g1, fr_tg h g1.1 g2 hm, (fr_ci h g1 fD).trans g3, (fr_ci h g1 fD).trans g4, (fr_ci h g1 fD).trans g5, fun fl hfl => ?_⟩
  obtain ⟨t, m, t1, t2, t3⟩ := g6 fl hfl
  have nF : ∀ z, tF S t z → ¬ ρ z ∈ M := fun z hz => by rw [t3 z hz]; exact hm
  refine ⟨t, m, (fr_cr h g1 fD).trans t1, tTk_sub h.1 t2 nF, fun z hz => ?_⟩
  have hz' := tF_sub h.1 t2 nF hz
  exact fr_tg h (tF_in t2 hz') (t3 z hz') hm
theorem gWd_fr {wl : Nat} {wp : List (Int64 × List (Nat × Nat))} (h : fk S T ρ ρ' M) (hm : 8 ∉ M) (g : gWd S ρ dp wl wp) : gWd T ρ' dp wl wp := by
  obtain ⟨ws, m, g1, g2, g3, g4⟩ := g
  obtain ⟨l1, l2⟩ := fr_ls h.1 hm g1 g2
  refine ⟨ws, m, l1, l2, g3, fun j p x hp hx => ?_⟩
  obtain ⟨⟨⟨q1, q2, q3, b, b1, b2, b3, b4⟩, a2, a3, a4⟩, a5, a6⟩ := g4 j p x hp hx
  obtain ⟨k1, k2, k3, k4⟩ := h.2 p q1.1 a5
  have fb : ρ b ∉ M := by rw [a6 b b1]; exact hm
  refine ⟨⟨⟨sub_A1 h.1.1 q1, (k2 _ (by decide)).trans q2, q3, b, (k3 _).trans b1, sub_A1 h.1.1 b2, (sub_cn h.1.1 b2).trans b3, by rw [sub_cI h.1.1 b2 fb]; exact b4⟩, (k4 _).trans a2, (k2 _ (by decide)).trans a3, a4⟩, k1, fun c hc => ?_⟩
  rw [k3, b1] at hc
  obtain rfl := Option.some.inj hc
  exact fr_tg h.1 b2.1 (a6 b b1) hm
theorem gSg_fr {A n : Nat} {ds : List Nat} {L : List Dc} (h : fk S T ρ ρ' M) (hm : 8 ∉ M) (g : gSg S ρ dp A n ds L) : gSg T ρ' dp A n ds L := by
  obtain ⟨g1, g2, g3, g4, g5, g6, g7⟩ := g
  obtain ⟨s1, s2, s3, ⟨dl, md, s4, s5⟩, s6⟩ := id g1
  have fA : ρ A ∉ M := by rw [g2]; exact hm
  have gD : ∀ D, D ∈ ds → ¬ ρ D ∈ M := fun D hD => by
    obtain ⟨i, hi⟩ := List.getElem?_of_mem hD
    obtain ⟨d, hd⟩ := get_ex (l := L) (k := i) (by have := get_lt hi; omega)
    rw [(g4 i D d hi hd).2.1]; exact hm
  obtain ⟨l1, l2⟩ := fr_ls h.1 hm s5 (fun z hz => g3 dl z s4 hz)
  refine ⟨sgT_sub h.1.1 g1 fA (fun b z hb hz => by rw [g3 b z hb hz]; exact hm) gD, fr_tg h.1 s1.1 g2 hm, fun b z hb hz => ?_, fun i D d hi hd => gFz_fr h.1 hm (g4 i D d hi hd), g5, g6, fun fl hfl => ?_⟩
  · rw [fr_cr h.1 s1 fA, s4] at hb
    obtain rfl := Option.some.inj hb
    exact l2 z hz
  · obtain ⟨wl, wp, w1, w2, w3⟩ := g7 fl hfl
    exact ⟨wl, wp, (fr_cr h.1 s1 fA).trans w1, gWd_fr h hm w2, w3⟩
theorem gSegs_fr {so : Nat → Nat} {sd : Nat → List Nat} {sg : Nat → List Dc} {made : Nat} (h : fk S T ρ ρ' M) (hm : 8 ∉ M) (g : gSegs S ρ dp so sd sg made) : gSegs T ρ' dp so sd sg made := fun n hn => gSg_fr h hm (g n hn)
theorem gBf_fr {x : Nat} {B : List Dc} (h : fr S T ρ ρ' M) (hm : 8 ∉ M) (h7 : 7 ∉ M) (hx : cr T 354 x = cr S 354 x) (g : gBf S ρ dp x B) : gBf T ρ' dp x B := by
  obtain ⟨b, bs, m, g1, g2, g3, g4, g5, g6, g7⟩ := g
  obtain ⟨l1, l2⟩ := fr_ls h h7 g2 g3
  exact ⟨b, bs, m, hx.trans g1, l1, l2, g4, g5, g6, fun i D d hi hd => ⟨gFz_fr h hm (g7 i D d hi hd).1, (g7 i D d hi hd).2⟩⟩
/-- .. its list and its holdings named -/
def gVx (S : cS) (ρ : Nat → Nat) (dp : Nat) (so : Nat → Nat) (sd : Nat → List Nat) (sg : Nat → List Dc) (τl τh V hl m : Nat) (hs ids : List Nat) (lv : Nat → Nat → Bool) : Prop := vwT S dp so sd sg V hl m hs ids lv ∧ m ≤ 620 ∧ (∀ (i j y z r : Nat), hs[i]? = some y → hs[j]? = some z → cr S 65 y = some r → cr S 65 z = some r → i = j) ∧ ρ V = τh ∧ (∀ z, lsF S dp hl z → ρ z = τl) ∧ ∀ y, y ∈ hs → ρ y = τh ∧ ∀ r, cr S 65 y = some r → ρ r = τh
theorem gVx_fr {so : Nat → Nat} {sd : Nat → List Nat} {sg : Nat → List Dc} {τl τh V made hl m : Nat} {hs ids : List Nat} {lv : Nat → Nat → Bool} (h : fr S T ρ ρ' M) (h1 : τl ∉ M) (h2 : τh ∉ M) (gs : gSegs T ρ' dp so sd sg made) (hid : ∀ n, n ∈ ids → n < made) (g : gVx S ρ dp so sd sg τl τh V hl m hs ids lv) : gVx T ρ' dp so sd sg τl τh V hl m hs ids lv := by
  obtain ⟨g1, g2, g3, g4, g5, g6⟩ := g
  have fh : ∀ y, y ∈ hs → ρ y ∉ M := fun y hy => by rw [(g6 y hy).1]; exact h2
  have yA : ∀ y, y ∈ hs → cA S y 2 := fun y hy => g1.2.2.1.2.2.2.2.2.1 y hy
  obtain ⟨l1, l2⟩ := fr_ls h h1 g1.2.2.1 g5
  have r65 : ∀ y, y ∈ hs → cr T 65 y = cr S 65 y := fun y hy => fr_cr h (yA y hy) (fh y hy)
  refine ⟨vwT_sub h.1 g1 (by rw [g4]; exact h2) (fun z hz => by rw [g5 z hz]; exact h1) (fun y hy => ⟨fh y hy, fun r hr => by rw [(g6 y hy).2 r hr]; exact h2⟩) (fun n hn _ => (gs n (hid n hn)).1), g2, fun i j y z r hi hj a b => ?_, fr_tg h g1.1.1 g4 h2, l2, fun y hy => ⟨fr_tg h (yA y hy).1 (g6 y hy).1 h2, fun r hr => ?_⟩⟩
  · rw [r65 y (List.mem_of_getElem? hi)] at a
    rw [r65 z (List.mem_of_getElem? hj)] at b
    exact g3 i j y z r hi hj a b
  · rw [r65 y hy] at hr
    obtain ⟨i, hi⟩ := List.getElem?_of_mem hy
    obtain ⟨n, hn⟩ := get_ex (l := ids) (k := i) (by have := get_lt hi; have := (vw_len g1).1; omega)
    obtain ⟨-, -, -, r', ho⟩ := g1.2.2.2.2 i y n hi hn
    obtain rfl : r' = r := Option.some.inj (ho.2.2.1.symm.trans hr)
    exact fr_tg h ho.2.2.2.1.1 ((g6 y hy).2 _ hr) h2
theorem gVx_in {so : Nat → Nat} {sd : Nat → List Nat} {sg : Nat → List Dc} {τl τh V hl m : Nat} {hs ids : List Nat} {lv : Nat → Nat → Bool} (g : gVx S ρ dp so sd sg τl τh V hl m hs ids lv) {y : Nat} (hy : y ∈ hs) : y ∈ cL S ∧ ∀ r, cr S 65 y = some r → r ∈ cL S := by
  refine ⟨(g.1.2.2.1.2.2.2.2.2.1 y hy).1, fun r hr => ?_⟩
  obtain ⟨i, hi⟩ := List.getElem?_of_mem hy
  obtain ⟨n, hn⟩ := get_ex (l := ids) (k := i) (by have := get_lt hi; have := (vw_len g.1).1; omega)
  obtain ⟨-, -, -, r', ho⟩ := g.1.2.2.2.2 i y n hi hn
  obtain rfl : r' = r := Option.some.inj (ho.2.2.1.symm.trans hr)
  exact ho.2.2.2.1.1
theorem gVw_fr {so : Nat → Nat} {sd : Nat → List Nat} {sg : Nat → List Dc} {τl τh V made : Nat} {ids : List Nat} {lv : Nat → Nat → Bool} (h : fr S T ρ ρ' M) (h1 : τl ∉ M) (h2 : τh ∉ M) (gs : gSegs T ρ' dp so sd sg made) (hid : ∀ n, n ∈ ids → n < made) (g : gVw S ρ dp so sd sg τl τh V ids lv) : gVw T ρ' dp so sd sg τl τh V ids lv := by
  obtain ⟨hl, m, hs, g⟩ := g
  exact ⟨hl, m, hs, gVx_fr h h1 h2 gs hid g⟩
end FZ
