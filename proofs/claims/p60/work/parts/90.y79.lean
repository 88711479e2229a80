/-! the reference: documents, buffer, segments; deleting -/
/-- these alone were written -/
def rF (A Fm Gm : List Nat) (v : Nat → Int32) (f : Nat → Nat → Int32) (g : Nat → Nat → Int64) (v' : Nat → Int32) (f' : Nat → Nat → Int32) (g' : Nat → Nat → Int64) : Prop := (∀ i, i ∉ A → v' i = v i) ∧ (∀ n, n ∉ Fm → f' n = f n) ∧ ∀ n, n ∉ Gm → g' n = g n
/-- truths stay truths -/
def zK (f f' : Nat → Nat → Int32) (n : Nat) : Prop := ∀ c, isZ (f n c) → isZ (f' n c)
theorem zK_rf {f : Nat → Nat → Int32} {n : Nat} : zK f f n := fun _ h => h
theorem zK_tr {f f' f'' : Nat → Nat → Int32} {n : Nat} (h : zK f f' n) (g : zK f' f'' n) : zK f f'' n := fun c x => g c (h c x)
theorem zK_eq {f f' : Nat → Nat → Int32} {n : Nat} (h : f' n = f n) : zK f f' n := fun c x => by rw [h]; exact x
theorem zK_up {f f' : Nat → Nat → Int32} {n i : Nat} {b : Bool} (h : f' n = fun k => if k = i then bI b else f n k) : zK f f' n := fun c x => by
  rw [h]
  show isZ (if c = i then bI b else f n c)
  split
  · exact ⟨b, rfl⟩
  · exact x
/-- the language: firsts, seconds, how many, stop words -/
abbrev LGt := (Nat → Int64) × (Nat → Int64) × Nat × (Int64 → Bool)
def tkG (l : LGt) (st : Nat → Int64) (n : Nat) : List (Int64 × Nat) := tkL l.1 l.2.1 l.2.2.1 l.2.2.2 st n
/-- a document's texts, as stems -/
def rTx (l : LGt) (fp : Nat → Int32) (gs : Nat → Int64) (k : Nat) (d : Dc) : Prop := ∀ fl, fl < 2 → ∃ n, n ≤ 20 ∧ fp (2 * k + fl) = nI n ∧ dT d fl = tkG l (fun q => gs (40 * k + (20 * fl + q))) n ∧ ∀ q, q < n → ∃ w, w < 37 ^ 12 ∧ gs (40 * k + (20 * fl + q)) = lN w
/-- a document in rows -/
def rDc (l : LGt) (fk fc fn fp : Nat → Int32) (gs : Nat → Int64) (k : Nat) (d : Dc) : Prop := (fk k = nI (dK d) ∧ dK d < 100) ∧ (fc k = nI (dC d) ∧ dC d < 10) ∧ (fn k = nI (dN d) ∧ dN d < 1000) ∧ rTx l fp gs k d
def rBf (l : LGt) (v : Nat → Int32) (f : Nat → Nat → Int32) (g : Nat → Nat → Int64) (B : List Dc) : Prop := v 20 = nI B.length ∧ B.length ≤ 12 ∧ ∀ k d, B[k]? = some d → rDc l (f 9) (f 10) (f 11) (f 13) (g 12) k d
/-- segments: their documents' places -/
def rSg (l : LGt) (v : Nat → Int32) (f : Nat → Nat → Int32) (g : Nat → Nat → Int64) (made dn : Nat) (sg : Nat → List Dc) (hd : Nat → Nat → Nat) : Prop := (v 29 = nI made ∧ made ≤ 201) ∧ (v 26 = nI dn ∧ dn ≤ 12 * made) ∧ ∀ n, n < made → f 20 n = nI (sg n).length ∧ (sg n).length ≤ 100 ∧ ∀ j d, (sg n)[j]? = some d → f 19 (100 * n + j) = nI (hd n j) ∧ hd n j < dn ∧ rDc l (f 14) (f 15) (f 16) (f 18) (g 17) (hd n j) d
/-- the index, and what is live of it -/
def rIx (v : Nat → Int32) (f : Nat → Nat → Int32) (made : Nat) (sg : Nat → List Dc) (ids : List Nat) (lv : Nat → Nat → Bool) : Prop := v 34 = nI ids.length ∧ ids.length ≤ 200 ∧ (∀ k n, ids[k]? = some n → f 24 k = nI n ∧ n < made) ∧ ∀ n, n ∈ ids → ∀ j, j < (sg n).length → f 21 (100 * n + j) = bI (lv n j)
section RD
variable {v v' v'' : Nat → Int32} {f f' f'' : Nat → Nat → Int32} {g g' g'' : Nat → Nat → Int64} {A Fm Gm A' Fm' Gm' : List Nat} {l : LGt} {B : List Dc} {made dn : Nat} {sg : Nat → List Dc} {hd : Nat → Nat → Nat} {ids : List Nat} {lv : Nat → Nat → Bool}
theorem rF_rf : rF A Fm Gm v f g v f g := ⟨fun _ _ => rfl, fun _ _ => rfl, fun _ _ => rfl⟩
theorem rF_tr (h : rF A Fm Gm v f g v' f' g') (h2 : rF A Fm Gm v' f' g' v'' f'' g'') : rF A Fm Gm v f g v'' f'' g'' := ⟨fun i hi => (h2.1 i hi).trans (h.1 i hi), fun n hn => (h2.2.1 n hn).trans (h.2.1 n hn), fun n hn => (h2.2.2 n hn).trans (h.2.2 n hn)⟩
theorem rF_wk (h : rF A Fm Gm v f g v' f' g') (h1 : A.all (fun τ => A'.contains τ) = true) (h2 : Fm.all (fun τ => Fm'.contains τ) = true) (h3 : Gm.all (fun τ => Gm'.contains τ) = true) : rF A' Fm' Gm' v f g v' f' g' := by
  have up : ∀ {X Y : List Nat}, X.all (fun τ => Y.contains τ) = true → ∀ i, i ∉ Y → i ∉ X := fun h i hi hx => hi (List.contains_iff_mem.mp (List.all_eq_true.mp h i hx))
  exact ⟨fun i hi => h.1 i (up h1 i hi), fun n hn => h.2.1 n (up h2 n hn), fun n hn => h.2.2 n (up h3 n hn)⟩
theorem rDc_cp {fk fc fn fp fk' fc' fn' fp' : Nat → Int32} {gs gs' : Nat → Int64} {k k' : Nat} {d : Dc} (e1 : fk' k' = fk k) (e2 : fc' k' = fc k) (e3 : fn' k' = fn k) (e4 : ∀ fl, fl < 2 → fp' (2 * k' + fl) = fp (2 * k + fl)) (e5 : ∀ q, q < 40 → gs' (40 * k' + q) = gs (40 * k + q)) (h : rDc l fk fc fn fp gs k d) : rDc l fk' fc' fn' fp' gs' k' d := by
  obtain ⟨⟨a1, a2⟩, ⟨b1, b2⟩, ⟨c1, c2⟩, h4⟩ := h
  refine ⟨⟨e1.trans a1, a2⟩, ⟨e2.trans b1, b2⟩, ⟨e3.trans c1, c2⟩, fun fl hfl => ?_⟩
  obtain ⟨n, n1, n2, n3, n4⟩ := h4 fl hfl
  have es : ∀ q, q < n → gs' (40 * k' + (20 * fl + q)) = gs (40 * k + (20 * fl + q)) := fun q hq => e5 _ (by omega)
  refine ⟨n, n1, (e4 fl hfl).trans n2, ?_, fun q hq => ?_⟩
  · rw [n3]
    have : ∀ m, m ≤ n → tkG l (fun q => gs (40 * k + (20 * fl + q))) m = tkG l (fun q => gs' (40 * k' + (20 * fl + q))) m := by
      intro m
      induction m with
      | zero => intro _; rfl
      | succ m ih =>
        intro hm
        have := ih (by omega)
        unfold tkG at this ⊢
        rw [tkL, tkL, this, es m (by omega)]
    exact this n (Nat.le_refl n)
  · rw [es q hq]; exact n4 q hq
theorem rBf_fr (hv : v' 20 = v 20) (h9 : f' 9 = f 9) (h10 : f' 10 = f 10) (h11 : f' 11 = f 11) (h13 : f' 13 = f 13) (h12 : g' 12 = g 12) (h : rBf l v f g B) : rBf l v' f' g' B := by
  unfold rBf
  rw [hv, h9, h10, h11, h13, h12]; exact h
theorem rSg_fr (hF : rF A Fm Gm v f g v' f' g') (h1 : [26, 29].all (fun τ => !A.contains τ) = true) (h2 : [14, 15, 16, 18, 19, 20].all (fun τ => !Fm.contains τ) = true) (h3 : [17].all (fun τ => !Gm.contains τ) = true) (h : rSg l v f g made dn sg hd) : rSg l v' f' g' made dn sg hd := by
  have a := nM_of h1
  have b := nM_of h2
  have c := nM_of h3
  unfold rSg
  rw [hF.1 26 (a 26 (by decide)), hF.1 29 (a 29 (by decide)), hF.2.1 14 (b 14 (by decide)), hF.2.1 15 (b 15 (by decide)), hF.2.1 16 (b 16 (by decide)), hF.2.1 18 (b 18 (by decide)), hF.2.1 19 (b 19 (by decide)), hF.2.1 20 (b 20 (by decide)), hF.2.2 17 (c 17 (by decide))]
  exact h
theorem rIx_fr (h34 : v' 34 = v 34) (h24 : f' 24 = f 24) (h21 : f' 21 = f 21) (h : rIx v f made sg ids lv) : rIx v' f' made sg ids lv := by
  unfold rIx
  rw [h34, h24, h21]; exact h
/-- the buffer's place of a key -/
theorem w_i {x y : Int32} {A B : Prop} (f : x ≠ y → A) (g : x = y → B) : (¬ x = y → A) ∧ (x = y → B) := ⟨f, g⟩
end RD
