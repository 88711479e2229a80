/-! the class: a merge ends -/
/-- lists side by side -/
def parL {α β : Type} (R : α → β → Prop) : List α → List β → Prop
  | [], [] => True
  | x :: l, y :: m => R x y ∧ parL R l m
  | _, _ => False
theorem parL_len {α β : Type} {R : α → β → Prop} : ∀ {l : List α} {m : List β}, parL R l m → l.length = m.length
  | [], [], _ => rfl
  | _ :: _, _ :: _, h => by rw [List.length_cons, List.length_cons, parL_len h.2]
  | [], _ :: _, h => absurd h id
  | _ :: _, [], h => absurd h id
theorem parL_of {α β : Type} {R : α → β → Prop} : ∀ {l : List α} {m : List β}, l.length = m.length → (∀ (i : Nat) (x : α) (y : β), l[i]? = some x → m[i]? = some y → R x y) → parL R l m
  | [], [], _, _ => trivial
  | x :: l, y :: m, h, hR => ⟨hR 0 x y rfl rfl, parL_of (by rw [List.length_cons, List.length_cons] at h; omega) (fun i a b ha hb => hR (i + 1) a b ha hb)⟩
  | [], _ :: _, h, _ => by rw [List.length_cons] at h; exact absurd h (by simp)
  | _ :: _, [], h, _ => by rw [List.length_cons] at h; exact absurd h (by simp)
theorem parL_get {α β : Type} {R : α → β → Prop} : ∀ {l : List α} {m : List β} {i : Nat} {x : α} {y : β}, parL R l m → l[i]? = some x → m[i]? = some y → R x y
  | [], [], i, x, y, _, h, _ => by rw [List.getElem?_nil] at h; exact absurd h (by simp)
  | a :: l, b :: m, 0, x, y, h, h1, h2 => by
    rw [List.getElem?_cons_zero] at h1 h2
    rw [← Option.some.inj h1, ← Option.some.inj h2]; exact h.1
  | a :: l, b :: m, i + 1, x, y, h, h1, h2 => by
    rw [List.getElem?_cons_succ] at h1 h2
    exact parL_get h.2 h1 h2
  | [], _ :: _, _, _, _, h, _, _ => absurd h id
  | _ :: _, [], _, _, _, h, _, _ => absurd h id
theorem parL_app {α β : Type} {R : α → β → Prop} : ∀ {l l' : List α} {m m' : List β}, parL R l m → parL R l' m' → parL R (l ++ l') (m ++ m')
  | [], _, [], _, _, h => h
  | _ :: _, _, _ :: _, _, h, h' => ⟨h.1, parL_app h.2 h'⟩
  | [], _, _ :: _, _, h, _ => absurd h id
  | _ :: _, _, [], _, h, _ => absurd h id
theorem parL_sel {α β : Type} {R : α → β → Prop} {f : Nat → Bool} : ∀ {l : List α} {m : List β} {k : Nat}, parL R l m → parL R (selA f k l) (selA f k m)
  | [], [], _, _ => trivial
  | x :: l, y :: m, k, h => by
    rw [selA, selA]
    split
    · exact ⟨h.1, parL_sel h.2⟩
    · exact parL_sel h.2
  | [], _ :: _, _, h => absurd h id
  | _ :: _, [], _, h => absurd h id
theorem parL_flat {α β : Type} {R : α → β → Prop} {f : Nat → List α} {g : Nat → List β} : ∀ {l : List Nat}, (∀ n, n ∈ l → parL R (f n) (g n)) → parL R (l.flatMap f) (l.flatMap g)
  | [], _ => trivial
  | n :: l, h => by
    rw [List.flatMap_cons, List.flatMap_cons]
    exact parL_app (h n (List.mem_cons_self ..)) (parL_flat (fun m hm => h m (List.mem_cons_of_mem _ hm)))
theorem parL_imp {α β : Type} {R R' : α → β → Prop} (hR : ∀ x y, R x y → R' x y) : ∀ {l : List α} {m : List β}, parL R l m → parL R' l m
  | [], [], _ => trivial
  | _ :: _, _ :: _, h => ⟨hR _ _ h.1, parL_imp hR h.2⟩
  | [], _ :: _, h => absurd h id
  | _ :: _, [], h => absurd h id
/-- what is live of a merged segment: those whose keys aren't dead -/
def mvF (L : List Dc) (ks : List Nat) (i : Nat) : Bool := match L[i]? with
  | some d => !(ks.contains (dK d))
  | none => true
theorem hoT_ext {S : cS} {h A r N : Nat} {f g : Nat → Bool} (hg : hoT S h A r N f) (he : ∀ j, j < N → g j = f j) : hoT S h A r N g := by
  obtain ⟨g1, g2, g3, g4, g5, g6, g7⟩ := hg
  exact ⟨g1, g2, g3, g4, g5, g6, fun j hj => by rw [he j hj]; exact g7 j hj⟩
section EM
variable {S T : cS} {ρ ρ' : Nat → Nat} {dp x made V M p : Nat} {so : Nat → Nat} {sd : Nat → List Nat} {sg : Nat → List Dc} {ids src : List Nat} {lv lvS : Nat → Nat → Bool}
theorem q_em112 {Q : cS → Prop} {mc ms cd dd : Nat} (hx : cA S x 11) (hρ : ρ x = 1) (hc : cd ≤ mc) (hd : dd ≤ ms) (h : ∀ T, fr S T ρ ρ [1] → cr T 356 x = none → ci T 357 x = nI 0 → (∀ q, q ≠ 356 → cr T q x = cr S q x) → (∀ q, q ≠ 357 → ci T q x = ci S q x) → Q T) : k_X11_endMerge_112 Q dp mc ms x cd dd S := by
  unfold k_X11_endMerge_112
  refine ⟨hx, fun S1 e1 => ?_⟩
  have f1 : fr S S1 ρ ρ [1] := ⟨e1 ▸ sub_Sr (F := fun a => ρ a ∈ [1]) (by rw [hρ]; decide), fun _ _ _ => rfl⟩
  refine ⟨fr_A f1 hx, fun S2 e2 => ⟨⟨hc, hd⟩, ?_⟩⟩
  have f2 : fr S S2 ρ ρ [1] := fr_mix f1 ⟨e2 ▸ sub_Si (F := fun a => ρ a ∈ [1]) (by rw [hρ]; decide), fun _ _ _ => rfl⟩
  exact h S2 f2 (hr_Si e2 (hr_Sr_s e1)) (hi_Si_s e2) (fun q hq => hr_Si e2 (hr_Sr_q e1 hq rfl)) (fun q hq => hi_Si_q e2 hq (hi_Sr e1 rfl))
/-- the documents that died meanwhile are deleted -/
theorem q_em68 {Q : cS → Prop} {mc ms cd dd b bm A h r n : Nat} {bs ds : List Nat} {L Ld : List Dc} {at_ : Int32} (hlb : lsT S dp b 0 bs bm) (hpar : parL (fun D d => cA S D 0 ∧ ci S 0 D = nI (dK d) ∧ dK d < 100) bs Ld) (gh : hoT S h A r L.length (fun _ => true)) (gs : sgT S dp A n ds L) (hnd : ∀ (i j : Nat) (d e : Dc), L[i]? = some d → L[j]? = some e → dK d = dK e → i = j) (hρr : ρ r = 10) (hbt : ∀ z, lsF S dp b z → ρ z ≠ 10) (hbD : ∀ D, D ∈ bs → ρ D ≠ 10) (hρh : ρ h = 10 → h ≠ r) (hsgt : ρ A ≠ 10 ∧ (∀ c z, cr S 257 A = some c → lsF S dp c z → ρ z ≠ 10) ∧ ∀ D, D ∈ ds → ρ D ≠ 10) (hhr : h ≠ r) (hm : cd ≤ mc) (hs : dd ≤ ms)
    (hQ : ∀ T, cSub S T (fun z => z = r) → hoT T h A r L.length (mvF L (Ld.map dK)) → cA T x 11 ∧ ∃ b29 : Nat, cr T 355 x = some b29 ∧ (cA T b29 10 ∧ ∃ mc30 ms31 : Nat, cd + mc30 ≤ mc ∧ dd + ms31 ≤ ms ∧ k_X10_put (fun S_32 => k_X11_endMerge_112 Q dp mc ms x (cd + mc30) (dd + ms31) S_32) dp mc30 ms31 b29 at_ h T)) : k_X11_endMerge_68L Q dp mc ms x b at_ h (nI 0) cd dd S := by
  have hlen := parL_len hpar
  have hbm := hlb.2.2.1
  have hb8 := hlb.2.2.2.1
  unfold k_X11_endMerge_68L
  refine lfp_cnt bs.length (fun k y => ∃ S', cSub S S' (fun z => z = r) ∧ hoT S' h A r L.length (mvF L ((Ld.take k).map dK)) ∧ y = (x, b, at_, h, nI k, cd, dd, S')) ?_ ⟨S, sub_rf, hoT_ext gh (fun j hj => ?_), rfl⟩
  · rintro P k _ hk ⟨S', s, gh', rfl⟩ ih
    show k_X11_endMerge_68 Q dp mc ms _ x b at_ h (nI k) cd dd S'
    have nr : ∀ {z : Nat}, ρ z ≠ 10 → ¬ z = r := fun hz e => hz (by rw [e]; exact hρr)
    have hlb' := lsT_sub s hlb (fun z hz => nr (hbt z hz))
    have gs' := sgT_sub s gs (nr hsgt.1) (fun c z hc hz => nr (hsgt.2.1 c z hc hz)) (fun D hD => nr (hsgt.2.2 D hD))
    unfold k_X11_endMerge_68
    refine ⟨hlb'.1, ⟨hm, hs⟩, q_lsize hlb' (pk_le bs.length k (fun z => ?_) (fun z => ?_))⟩
    · obtain rfl : k = bs.length := by omega
      rw [List.take_of_length_le (by omega)] at gh'
      exact hQ S' s gh'
    · obtain ⟨D, hD⟩ := get_ex z
      obtain ⟨d, hd⟩ := get_ex (l := Ld) (k := k) (by omega)
      obtain ⟨d1, d2, d3⟩ := parL_get hpar hD hd
      have nD := nr (hbD D (List.mem_of_getElem? hD))
      have D' := sub_A1 s d1
      have tk : (Ld.take (k + 1)).map dK = (Ld.take k).map dK ++ [dK d] := by rw [List.take_succ, hd, List.map_append]; rfl
      refine ⟨hlb'.1, ⟨hm, hs⟩, q_lget hlb' hD ⟨D', D', gh'.1, ⟨hm, hs⟩, ?_⟩⟩
      rw [(sub_ci s d1 nD).trans d2]
      refine q_kill gh' gs' rfl (fun T j e hj he hlv hk' _ eT gT => ?_) (fun hno => ?_)
      · rintro _ rfl
        rw [nI_add]
        refine ih _ z ⟨T, sub_tr s (eT ▸ sub_SI (F := fun z => z = r) rfl) (fun _ _ w => w), hoT_ext gT (fun i hi => ?_), rfl⟩
        obtain ⟨c, hc⟩ := get_ex (l := L) (k := i) hi
        have ek : dK e = dK d := by
          have := gs'.2.2.2.2
          obtain ⟨E, hE⟩ := get_ex (l := ds) (k := j) (by have := gs'.2.2.1; omega)
          have h100 := (this j E e hE he).2.2
          exact (nI_eq (by omega) (by omega)).mp hk'
        unfold mvF
        rw [tk, hc]
        show (!((Ld.take k).map dK ++ [dK d]).contains (dK c)) = if i = j then false else !((Ld.take k).map dK).contains (dK c)
        by_cases eij : i = j
        · subst eij
          obtain rfl : e = c := Option.some.inj (he.symm.trans hc)
          rw [if_pos rfl, ek]
          simp
        · rw [if_neg eij]
          have hne : dK c ≠ dK d := fun w => eij (hnd i j c e hc he (w.trans ek.symm))
          simp [hne]
      · rintro _ rfl
        rw [nI_add]
        refine ih _ z ⟨S', s, hoT_ext gh' (fun i hi => ?_), rfl⟩
        obtain ⟨c, hc⟩ := get_ex (l := L) (k := i) hi
        unfold mvF
        rw [tk, hc]
        show (!((Ld.take k).map dK ++ [dK d]).contains (dK c)) = !((Ld.take k).map dK).contains (dK c)
        by_cases w : dK c = dK d
        · have h1 := hno i c hi hc
          have h2 : mvF L ((Ld.take k).map dK) i ≠ true := fun y => h1 y (by rw [w])
          have h3 : mvF L ((Ld.take k).map dK) i = !((Ld.take k).map dK).contains (dK c) := by unfold mvF; rw [hc]
          rw [h3] at h2
          have h4 : ((Ld.take k).map dK).contains (dK c) = true := by
            cases y : ((Ld.take k).map dK).contains (dK c) with
            | true => rfl
            | false => rw [y] at h2; exact absurd rfl h2
          rw [h4]
          have : ((Ld.take k).map dK ++ [dK d]).contains (dK c) = true := by
            rw [List.contains_iff_mem] at h4 ⊢
            exact List.mem_append_left _ h4
          rw [this]
        · simp [w]
  · obtain ⟨c, hc⟩ := get_ex (l := L) (k := j) hj
    unfold mvF
    rw [hc, List.take_zero]
    rfl
end EM
