/-! the reference: documents, buffer, segments; deleting -/
/-- these alone were written -/
def rF (A Fm Gm : List Nat) (v : Nat → Int32) (f : Nat → Nat → Int32) (g : Nat → Nat → Int64) (v' : Nat → Int32) (f' : Nat → Nat → Int32) (g' : Nat → Nat → Int64) : Prop := (∀ i, i ∉ A → v' i = v i) ∧ (∀ n, n ∉ Fm → f' n = f n) ∧ ∀ n, n ∉ Gm → g' n = g n
/-- truths stay truths -/
def zK (f f' : Nat → Nat → Int32) (n : Nat) : Prop := ∀ c, isZ (f n c) → isZ (f' n c)
theorem zK_rf {f : Nat → Nat → Int32} {n : Nat} : zK f f n := fun _ h => h
theorem zK_tr {f f' f'' : Nat → Nat → Int32} {n : Nat} (h : zK f f' n) (g : zK f' f'' n) : zK f f'' n := fun c x => g c (h c x)
theorem zK_eq {f f' : Nat → Nat → Int32} {n : Nat} (h : f' n = f n) : zK f f' n := fun c x => by rw [h]; exact x
theorem zK_up {f f' : Nat → Nat → Int32} {n i : Nat} {b : Bool} (h : f' n = fun k => if k = i then bI b else f n k) : zK f f' n := fun c x => by
  rw [h]
  show isZ (if c = i then bI b else f n c)
  split
  · exact ⟨b, rfl⟩
  · exact x
/-- the language: firsts, seconds, how many, stop words -/
abbrev LGt := (Nat → Int64) × (Nat → Int64) × Nat × (Int64 → Bool)
def tkG (l : LGt) (st : Nat → Int64) (n : Nat) : List (Int64 × Nat) := tkL l.1 l.2.1 l.2.2.1 l.2.2.2 st n
/-- a document's texts, as stems -/
def rTx (l : LGt) (fp : Nat → Int32) (gs : Nat → Int64) (k : Nat) (d : Dc) : Prop := ∀ fl, fl < 2 → ∃ n, n ≤ 20 ∧ fp (2 * k + fl) = nI n ∧ dT d fl = tkG l (fun q => gs (40 * k + (20 * fl + q))) n ∧ ∀ q, q < n → ∃ w, w < 37 ^ 12 ∧ gs (40 * k + (20 * fl + q)) = lN w
/-- a document in rows -/
def rDc (l : LGt) (fk fc fn fp : Nat → Int32) (gs : Nat → Int64) (k : Nat) (d : Dc) : Prop := (fk k = nI (dK d) ∧ dK d < 100) ∧ (fc k = nI (dC d) ∧ dC d < 10) ∧ (fn k = nI (dN d) ∧ dN d < 1000) ∧ rTx l fp gs k d
def rBf (l : LGt) (v : Nat → Int32) (f : Nat → Nat → Int32) (g : Nat → Nat → Int64) (B : List Dc) : Prop := v 20 = nI B.length ∧ B.length ≤ 12 ∧ ∀ k d, B[k]? = some d → rDc l (f 9) (f 10) (f 11) (f 13) (g 12) k d
/-- segments: their documents' places -/
def rSg (l : LGt) (v : Nat → Int32) (f : Nat → Nat → Int32) (g : Nat → Nat → Int64) (made dn : Nat) (sg : Nat → List Dc) (hd : Nat → Nat → Nat) : Prop := (v 29 = nI made ∧ made ≤ 201) ∧ (v 26 = nI dn ∧ dn ≤ 12 * made) ∧ ∀ n, n < made → f 20 n = nI (sg n).length ∧ (sg n).length ≤ 100 ∧ ∀ j d, (sg n)[j]? = some d → f 19 (100 * n + j) = nI (hd n j) ∧ hd n j < dn ∧ rDc l (f 14) (f 15) (f 16) (f 18) (g 17) (hd n j) d
/-- the index, and what is live of it -/
def rIx (v : Nat → Int32) (f : Nat → Nat → Int32) (made : Nat) (sg : Nat → List Dc) (ids : List Nat) (lv : Nat → Nat → Bool) : Prop := v 34 = nI ids.length ∧ ids.length ≤ 200 ∧ (∀ k n, ids[k]? = some n → f 24 k = nI n ∧ n < made) ∧ ∀ n, n ∈ ids → ∀ j, j < (sg n).length → f 21 (100 * n + j) = bI (lv n j)
section RD
variable {v v' v'' : Nat → Int32} {f f' f'' : Nat → Nat → Int32} {g g' g'' : Nat → Nat → Int64} {A Fm Gm A' Fm' Gm' : List Nat} {l : LGt} {B : List Dc} {made dn : Nat} {sg : Nat → List Dc} {hd : Nat → Nat → Nat} {ids : List Nat} {lv : Nat → Nat → Bool}
theorem rF_rf : rF A Fm Gm v f g v f g := ⟨fun _ _ => rfl, fun _ _ => rfl, fun _ _ => rfl⟩
theorem rF_tr (h : rF A Fm Gm v f g v' f' g') (h2 : rF A Fm Gm v' f' g' v'' f'' g'') : rF A Fm Gm v f g v'' f'' g'' := ⟨fun i hi => (h2.1 i hi).trans (h.1 i hi), fun n hn => (h2.2.1 n hn).trans (h.2.1 n hn), fun n hn => (h2.2.2 n hn).trans (h.2.2 n hn)⟩
theorem rF_wk (h : rF A Fm Gm v f g v' f' g') (h1 : A.all (fun τ => A'.contains τ) = true) (h2 : Fm.all (fun τ => Fm'.contains τ) = true) (h3 : Gm.all (fun τ => Gm'.contains τ) = true) : rF A' Fm' Gm' v f g v' f' g' := by
  have up : ∀ {X Y : List Nat}, X.all (fun τ => Y.contains τ) = true → ∀ i, i ∉ Y → i ∉ X := fun h i hi hx => hi (List.contains_iff_mem.mp (List.all_eq_true.mp h i hx))
  exact ⟨fun i hi => h.1 i (up h1 i hi), fun n hn => h.2.1 n (up h2 n hn), fun n hn => h.2.2 n (up h3 n hn)⟩
theorem rDc_cp {fk fc fn fp fk' fc' fn' fp' : Nat → Int32} {gs gs' : Nat → Int64} {k k' : Nat} {d : Dc} (e1 : fk' k' = fk k) (e2 : fc' k' = fc k) (e3 : fn' k' = fn k) (e4 : ∀ fl, fl < 2 → fp' (2 * k' + fl) = fp (2 * k + fl)) (e5 : ∀ q, q < 40 → gs' (40 * k' + q) = gs (40 * k + q)) (h : rDc l fk fc fn fp gs k d) : rDc l fk' fc' fn' fp' gs' k' d := by
  obtain ⟨⟨a1, a2⟩, ⟨b1, b2⟩, ⟨c1, c2⟩, h4⟩ := h
  refine ⟨⟨e1.trans a1, a2⟩, ⟨e2.trans b1, b2⟩, ⟨e3.trans c1, c2⟩, fun fl hfl => ?_⟩
  obtain ⟨n, n1, n2, n3, n4⟩ := h4 fl hfl
  have es : ∀ q, q < n → gs' (40 * k' + (20 * fl + q)) = gs (40 * k + (20 * fl + q)) := fun q hq => e5 _ (by omega)
  refine ⟨n, n1, (e4 fl hfl).trans n2, ?_, fun q hq => ?_⟩
  · rw [n3]
    have : ∀ m, m ≤ n → tkG l (fun q => gs (40 * k + (20 * fl + q))) m = tkG l (fun q => gs' (40 * k' + (20 * fl + q))) m := by
      intro m
      induction m with
      | zero => intro _; rfl
      | succ m ih =>
        intro hm
        have := ih (by omega)
        unfold tkG at this ⊢
        rw [tkL, tkL, this, es m (by omega)]
    exact this n (Nat.le_refl n)
  · rw [es q hq]; exact n4 q hq
theorem rBf_fr (hv : v' 20 = v 20) (h9 : f' 9 = f 9) (h10 : f' 10 = f 10) (h11 : f' 11 = f 11) (h13 : f' 13 = f 13) (h12 : g' 12 = g 12) (h : rBf l v f g B) : rBf l v' f' g' B := by
  unfold rBf
  rw [hv, h9, h10, h11, h13, h12]; exact h
theorem rSg_fr (hF : rF A Fm Gm v f g v' f' g') (h1 : [26, 29].all (fun τ => !A.contains τ) = true) (h2 : [14, 15, 16, 18, 19, 20].all (fun τ => !Fm.contains τ) = true) (h3 : [17].all (fun τ => !Gm.contains τ) = true) (h : rSg l v f g made dn sg hd) : rSg l v' f' g' made dn sg hd := by
  have a := nM_of h1
  have b := nM_of h2
  have c := nM_of h3
  unfold rSg
  rw [hF.1 26 (a 26 (by decide)), hF.1 29 (a 29 (by decide)), hF.2.1 14 (b 14 (by decide)), hF.2.1 15 (b 15 (by decide)), hF.2.1 16 (b 16 (by decide)), hF.2.1 18 (b 18 (by decide)), hF.2.1 19 (b 19 (by decide)), hF.2.1 20 (b 20 (by decide)), hF.2.2 17 (c 17 (by decide))]
  exact h
theorem rIx_fr (h34 : v' 34 = v 34) (h24 : f' 24 = f 24) (h21 : f' 21 = f 21) (h : rIx v f made sg ids lv) : rIx v' f' made sg ids lv := by
  unfold rIx
  rw [h34, h24, h21]; exact h
/-- the buffer's place of a key -/
theorem w_i {x y : Int32} {A B : Prop} (f : x ≠ y → A) (g : x = y → B) : (¬ x = y → A) ∧ (x = y → B) := ⟨f, g⟩
theorem p_inBufferX {Q : QI} {x0 : Int32} (hb : rBf l v f g B) (h1 : ∀ i d, B[i]? = some d → nI (dK d) = x0 → Q (nI i) v f g) (h2 : (∀ d, d ∈ B → nI (dK d) ≠ x0) → Q (-1) v f g) : r_inBuffer Q x0 v f g := by
  obtain ⟨b1, b2, b3⟩ := hb
  unfold r_inBuffer
  rintro _ rfl
  unfold r_inBuffer_4L
  refine lfp_cnt B.length (fun k y => ∃ x : Int32, ((x = -1 ∧ ∀ i d, i < k → B[i]? = some d → nI (dK d) ≠ x0) ∨ ∃ i d, B[i]? = some d ∧ nI (dK d) = x0 ∧ x = nI i) ∧ y = (x0, x, nI k, v, f, g)) ?_ ⟨-1, Or.inl ⟨rfl, fun i d hi => absurd hi (Nat.not_lt_zero i)⟩, rfl⟩
  rintro P k _ hk' ⟨x, hx, rfl⟩ ih
  show r_inBuffer_4 Q _ x0 x (nI k) v f g
  unfold r_inBuffer_4
  rw [b1]
  refine pk_le B.length k (fun z => ?_) (fun z => ⟨pk_in k 12 (by omega), ?_⟩)
  · obtain rfl : k = B.length := by omega
    rcases hx with ⟨rfl, hno⟩ | ⟨i, d, hi, hd, rfl⟩
    · refine h2 (fun d hd => ?_)
      obtain ⟨i, hi⟩ := List.getElem?_of_mem hd
      exact hno i d (get_lt hi) hi
    · exact h1 i d hi hd
  · obtain ⟨d, hd⟩ := get_ex z
    obtain ⟨⟨d1, d2⟩, -⟩ := b3 k d hd
    rw [nI_clamp (show k < 2 ^ 31 by omega), d1]
    have go : ∀ t : Int32, ((t = -1 ∧ ∀ i d, i < k + 1 → B[i]? = some d → nI (dK d) ≠ x0) ∨ ∃ i d, B[i]? = some d ∧ nI (dK d) = x0 ∧ t = nI i) → r_inBuffer_27 Q (fun b0 b1 b2 v f g => P (b0, b1, b2, v, f, g)) x0 (nI k) t v f g := by
      intro t ht
      unfold r_inBuffer_27
      rintro _ rfl
      rw [nI_add]
      exact ih _ z ⟨t, ht, rfl⟩
    refine w_i (fun c => go x ?_) (fun c => go _ (Or.inr ⟨k, d, hd, c, rfl⟩))
    rcases hx with ⟨e, hno⟩ | hx
    · refine Or.inl ⟨e, fun i d' hi hd' => ?_⟩
      by_cases c2 : i = k
      · subst c2
        rw [hd] at hd'
        rw [← Option.some.inj hd']; exact c
      · exact hno i d' (by omega) hd'
    · exact Or.inr hx
theorem p_inBuffer {Q : QI} {key : Nat} (hk : key < 2 ^ 31) (hb : rBf l v f g B) (h1 : ∀ i d, B[i]? = some d → dK d = key → Q (nI i) v f g) (h2 : (∀ d, d ∈ B → dK d ≠ key) → Q (-1) v f g) : r_inBuffer Q (nI key) v f g := by
  refine p_inBufferX hb (fun i d hi e => ?_) (fun hno => h2 (fun d hd e => hno d hd (by rw [e])))
  have := (hb.2.2 i d hi).1.2
  exact h1 i d hi ((nI_eq (by omega) hk).mp e)
/-- a document of the buffer is moved -/
theorem p_moves {Q : QV} {a b : Nat} (ha : a < 12) (hb : b < 12) (hab : a ≠ b) (h : ∀ f' g', rF [] [9, 10, 11, 13] [12] v f g v f' g' → (f' 9 b = f 9 a ∧ f' 10 b = f 10 a ∧ f' 11 b = f 11 a) → (∀ k, k ≠ b → f' 9 k = f 9 k ∧ f' 10 k = f 10 k ∧ f' 11 k = f 11 k) → (∀ fl, fl < 2 → f' 13 (2 * b + fl) = f 13 (2 * a + fl)) → (∀ k, k ≠ b → ∀ fl, fl < 2 → f' 13 (2 * k + fl) = f 13 (2 * k + fl)) → (∀ q, q < 40 → g' 12 (40 * b + q) = g 12 (40 * a + q)) → (∀ k, k ≠ b → ∀ q, q < 40 → g' 12 (40 * k + q) = g 12 (40 * k + q)) → Q v f' g') : r_moves Q (nI a) (nI b) v f g := by
  unfold r_moves
  rw [nI_clamp (show a < 2 ^ 31 by omega), nI_clamp (show b < 2 ^ 31 by omega)]
  have ia : vp_in (nI a) 12 := pk_in a 12 ha
  have ib : vp_in (nI b) 12 := pk_in b 12 hb
  refine ⟨ia, ib, fun f1 e1 => ⟨ia, ib, fun f2 e2 => ⟨ia, ib, fun f3 e3 => ?_⟩⟩⟩
  have o3 : ∀ n, n ≠ 9 → n ≠ 10 → n ≠ 11 → f3 n = f n := fun n h9 h10 h11 => by rw [e3, mU_n h11, e2, mU_n h10, e1, mU_n h9]
  have r9 : f3 9 = fun k => if k = b then f 9 a else f 9 k := by rw [e3, mU_n (by decide), e2, mU_n (by decide), e1, mU_s]
  have r10 : f3 10 = fun k => if k = b then f 10 a else f 10 k := by rw [e3, mU_n (by decide), e2, mU_s, e1, mU_n (by decide)]
  have r11 : f3 11 = fun k => if k = b then f 11 a else f 11 k := by rw [e3, mU_s, e2, mU_n (by decide), e1, mU_n (by decide)]
  unfold r_moves_38L
  refine lfp_cnt 40 (fun q y => ∃ g', (∀ n, n ≠ 12 → g' n = g n) ∧ (∀ i, i < q → g' 12 (40 * b + i) = g 12 (40 * a + i)) ∧ (∀ k, k ≠ b → ∀ i, i < 40 → g' 12 (40 * k + i) = g 12 (40 * k + i)) ∧ y = (nI a, nI b, nI q, v, f3, g')) ?_ ⟨g, fun _ _ => rfl, fun i hi => absurd hi (Nat.not_lt_zero i), fun _ _ _ _ => rfl, rfl⟩
  rintro P q _ hq ⟨g', g1, g2, g3, rfl⟩ ih
  show r_moves_38 Q _ (nI a) (nI b) (nI q) v f3 g'
  unfold r_moves_38
  rw [pk_mul, pk_mul, pk_mul, pk_mul, nI_add, nI_add, nI_add, nI_add, nI_clamp (show 2 * a < 2 ^ 31 by omega), nI_clamp (show 2 * b < 2 ^ 31 by omega), nI_clamp (show 2 * a + 1 < 2 ^ 31 by omega), nI_clamp (show 2 * b + 1 < 2 ^ 31 by omega), nI_clamp (show 40 * a + q < 2 ^ 31 by omega), nI_clamp (show 40 * b + q < 2 ^ 31 by omega)]
  refine pk_le 40 q (fun z => ?_) (fun z => ?_)
  · obtain rfl : q = 40 := by omega
    refine ⟨pk_in (2 * a) 24 (by omega), pk_in (2 * b) 24 (by omega), fun f4 e4 => ⟨pk_in (2 * a + 1) 24 (by omega), pk_in (2 * b + 1) 24 (by omega), fun f5 e5 => ?_⟩⟩
    have r13 : f5 13 = fun k => if k = 2 * b + 1 then f 13 (2 * a + 1) else if k = 2 * b then f 13 (2 * a) else f 13 k := by
      have e13 : f3 13 = f 13 := o3 13 (by decide) (by decide) (by decide)
      have e41 : f4 13 = fun k => if k = 2 * b then f 13 (2 * a) else f 13 k := by rw [e4, mU_s, e13]
      rw [e5, mU_s, e41]
      show (fun k => if k = 2 * b + 1 then (if 2 * a + 1 = 2 * b then f 13 (2 * a) else f 13 (2 * a + 1)) else _) = _
      rw [if_neg (show ¬ 2 * a + 1 = 2 * b by omega)]
    have oo : ∀ n, n ≠ 13 → f5 n = f3 n := fun n hn => by rw [e5, mU_n hn, e4, mU_n hn]
    refine h f5 g' ⟨fun _ _ => rfl, fun n hn => ?_, fun n hn => g1 n (fun e => hn (by rw [e]; decide))⟩ ⟨?_, ?_, ?_⟩ (fun k hk => ⟨?_, ?_, ?_⟩) (fun fl hfl => ?_) (fun k hk fl hfl => ?_) (fun i hi => g2 i hi) g3
    · rw [oo n (fun e => hn (by rw [e]; decide)), o3 n (fun e => hn (by rw [e]; decide)) (fun e => hn (by rw [e]; decide)) (fun e => hn (by rw [e]; decide))]
    · rw [oo 9 (by decide), r9]; exact if_pos rfl
    · rw [oo 10 (by decide), r10]; exact if_pos rfl
    · rw [oo 11 (by decide), r11]; exact if_pos rfl
    · rw [oo 9 (by decide), r9]; exact if_neg hk
    · rw [oo 10 (by decide), r10]; exact if_neg hk
    · rw [oo 11 (by decide), r11]; exact if_neg hk
    · rw [r13]
      rcases (show fl = 0 ∨ fl = 1 by omega) with rfl | rfl
      · show (if 2 * b + 0 = 2 * b + 1 then _ else if 2 * b + 0 = 2 * b then f 13 (2 * a) else _) = _
        rw [if_neg (by omega), if_pos (by omega), Nat.add_zero]
      · show (if 2 * b + 1 = 2 * b + 1 then f 13 (2 * a + 1) else _) = _
        rw [if_pos rfl]
    · rw [r13]
      show (if 2 * k + fl = 2 * b + 1 then _ else if 2 * k + fl = 2 * b then _ else f 13 (2 * k + fl)) = _
      rw [if_neg (by omega), if_neg (by omega)]
  · refine ⟨pk_in (40 * a + q) 480 (by omega), pk_in (40 * b + q) 480 (by omega), fun g6 e6 => ?_⟩
    rintro _ rfl
    rw [nI_add]
    have r12 : g6 12 = fun k => if k = 40 * b + q then g' 12 (40 * a + q) else g' 12 k := by rw [e6, mU_s]
    refine ih _ z ⟨g6, fun n hn => by rw [e6, mU_n hn]; exact g1 n hn, fun i hi => ?_, fun k hk i hi => ?_, rfl⟩
    · rw [r12]
      show (if 40 * b + i = 40 * b + q then g' 12 (40 * a + q) else g' 12 (40 * b + i)) = _
      by_cases c : i = q
      · subst c; rw [if_pos rfl]; exact g3 a hab i z
      · rw [if_neg (by omega)]; exact g2 i (by omega)
    · rw [r12]
      show (if 40 * k + i = 40 * b + q then _ else g' 12 (40 * k + i)) = _
      rw [if_neg (by omega)]; exact g3 k hk i hi
end RD
