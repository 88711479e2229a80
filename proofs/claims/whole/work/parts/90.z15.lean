/-! the reference: hits are held; the entries that were used -/
theorem nI_dec (p : Nat) (h : p < 2 ^ 31) : nI (p + 1) + (-1) = nI p := by
  rw [show (-1 : Int32) = 0 - nI 1 from rfl]
  have := pk_sub (a := p + 1) (b := 1) (by omega)
  rw [show p + 1 - 1 = p by omega] at this
  rw [← this]
  simp [Int32.sub_eq_add_neg]
/-- the hits in rows -/
def rHt (v : Nat → Int32) (f : Nat → Nat → Int32) (H : List (Nat × Nat)) : Prop := v 88 = nI H.length ∧ H.length ≤ 20 ∧ ∀ i x, H[i]? = some x → f 59 i = nI x.1 ∧ f 60 i = nI x.2 ∧ x.2 < 2 ^ 31
section HO
variable {v v' : Nat → Int32} {f f' : Nat → Nat → Int32} {g g' : Nat → Nat → Int64} {H : List (Nat × Nat)}
theorem rHt_fr (h1 : v' 88 = v 88) (h2 : f' 59 = f 59) (h3 : f' 60 = f 60) (h : rHt v f H) : rHt v' f' H := by
  unfold rHt
  rw [h1, h2, h3]; exact h
theorem p_holds47 {Q : QV} {L : List (Nat × Nat)} {kk key r mo : Nat} (hk : kk < 2424) (h14 : f 14 kk = nI key) (hr : r < 2 ^ 31) (hL : L.length < 20) (hmo : mo ≤ 20) (h88 : v 88 = nI H.length) (hH : H.length ≤ 20) (hn : L.length + 1 = H.length + if H.length = mo then 0 else 1) (hR : ∀ i x, L[i]? = some x → f 59 i = nI x.1 ∧ f 60 i = nI x.2 ∧ x.2 < 2 ^ 31) (h : ∀ v' f', (∀ i, i ≠ 88 → v' i = v i) → (∀ n, n ≠ 59 → n ≠ 60 → f' n = f n) → rHt v' f' (inH L (key, r)) → Q v' f' g) : r_holds_47L Q (nI kk) (nI r) (nI mo) (nI L.length) v f g := by
  unfold r_holds_47L
  refine lfp_ind (fun y => ∃ p f2, p ≤ L.length ∧ psH L r p = psH L r L.length ∧ (∀ n, n ≠ 59 → n ≠ 60 → f2 n = f n) ∧ (∀ i x, L[i]? = some x → (i < p → f2 59 i = nI x.1 ∧ f2 60 i = nI x.2) ∧ (p ≤ i → f2 59 (i + 1) = nI x.1 ∧ f2 60 (i + 1) = nI x.2)) ∧ y = (nI kk, nI r, nI mo, nI p, v, f2, g)) (fun y => y.2.2.2.1.toNatClampNeg) ?_ ⟨L.length, f, Nat.le_refl _, rfl, fun _ _ _ => rfl, fun i x hx => ⟨fun _ => ⟨(hR i x hx).1, (hR i x hx).2.1⟩, fun c => absurd (get_lt hx) (by omega)⟩, rfl⟩
  rintro P _ ⟨p, f2, hp, hps, a1, a2, rfl⟩ ih
  show r_holds_47 Q _ (nI kk) (nI r) (nI mo) (nI p) v f2 g
  have pc : (nI p).toNatClampNeg = p := nI_clamp (by omega)
  have pin : vp_in (nI p) 20 := pk_in p 20 (by omega)
  have stop : psH L r p = p → r_holds_103 Q (nI kk) (nI r) (nI mo) (nI p) v f2 g := by
    intro hpp
    have ei : inH L (key, r) = L.take p ++ (key, r) :: L.drop p := by
      unfold inH
      rw [show psH L (key, r).2 L.length = p by rw [← hpp, hps]]
    unfold r_holds_103
    rw [pc]
    refine ⟨pin, ?_⟩
    intro f3 e3
    refine ⟨pk_in kk 2424 hk, pin, ?_⟩
    intro f4 e4
    rw [nI_clamp (show kk < 2 ^ 31 by omega)] at e4
    have f14 : f3 14 kk = nI key := by rw [e3, mU_n (by decide), a1 14 (by decide) (by decide)]; exact h14
    rw [f14] at e4
    have fin : ∀ v5, (∀ i, i ≠ 88 → v5 i = v i) → v5 88 = nI (L.length + 1) → Q v5 f4 g := by
      intro v5 b1 b2
      refine h v5 f4 b1 (fun n h1 h2 => by rw [e4, mU_n h1, e3, mU_n h2]; exact a1 n h1 h2) ⟨by rw [ei, insA_len hp]; exact b2, by rw [ei, insA_len hp]; omega, fun i x hx => ?_⟩
      rw [ei] at hx
      have r59 : f4 59 i = if i = p then nI key else f2 59 i := by rw [e4, mU_s, e3, mU_n (by decide)]
      have r60 : f4 60 i = if i = p then nI r else f2 60 i := by rw [e4, mU_n (by decide), e3, mU_s]
      rw [r59, r60]
      rcases (insA_get hp).mp hx with ⟨c, hx⟩ | ⟨rfl, rfl⟩ | ⟨c, hx⟩
      · rw [if_neg (by omega), if_neg (by omega)]
        have := (a2 i x hx).1 c
        exact ⟨this.1, this.2, (hR i x hx).2.2⟩
      · rw [if_pos rfl, if_pos rfl]; exact ⟨rfl, rfl, hr⟩
      · rw [if_neg (by omega), if_neg (by omega)]
        have := (a2 (i - 1) x hx).2 (by omega)
        rw [show i - 1 + 1 = i by omega] at this
        exact ⟨this.1, this.2, (hR _ x hx).2.2⟩
    rw [h88]
    unfold r_holds_142
    refine w_ne H.length mo (fun c => ?_) (fun c => ?_)
    · rintro v5 e5
      refine fin v5 (fun i hi => by rw [e5, upd_n hi]) ?_
      rw [e5, upd_at, nI_add]
      rw [if_neg c] at hn
      rw [hn]
    · rintro v5 e5
      refine fin v5 (fun i hi => by rw [e5, upd_n hi]) ?_
      rw [e5, upd_at, nI_add]
      rw [if_pos c] at hn
      rw [hn]
  unfold r_holds_47
  refine pk_le p 0 (fun z => stop ?_) (fun z => ?_)
  · rw [show p = 0 by omega]; rfl
  obtain ⟨p', rfl⟩ : ∃ p', p = p' + 1 := ⟨p - 1, by omega⟩
  rw [pk_sub (show 1 ≤ p' + 1 by omega), show p' + 1 - 1 = p' by omega, nI_clamp (show p' < 2 ^ 31 by omega), pc]
  obtain ⟨x, hx⟩ := get_ex (l := L) (k := p') (by omega)
  have e0 := (a2 p' x hx).1 (Nat.lt_succ_self _)
  have x31 := (hR p' x hx).2.2
  have gD : (L.getD p' (0, 0)).2 = x.2 := by rw [List.getD_eq_getElem?_getD, hx]; rfl
  have p'in : vp_in (nI p') 20 := pk_in p' 20 (by omega)
  rw [e0.2]
  refine ⟨p'in, pk_le r x.2 (fun z2 => stop ?_) (fun z2 => ⟨p'in, pin, ?_⟩)⟩
  · rw [psH, gD, if_neg (by omega)]
  intro f4 e4
  refine ⟨p'in, pin, ?_⟩
  intro f5 e5
  have e9 : f4 59 p' = nI x.1 := by rw [e4, mU_n (by decide)]; exact e0.1
  rw [e9] at e5
  rintro _ rfl
  rw [nI_dec p' (by omega)]
  refine ih _ ⟨p', f5, by omega, ?_, fun n h1 h2 => by rw [e5, mU_n h1, e4, mU_n h2]; exact a1 n h1 h2, fun i y hy => ?_, rfl⟩ ?_
  · rw [← hps, psH, gD, if_pos z2]
  · have r59 : ∀ j, f5 59 j = if j = p' + 1 then nI x.1 else f2 59 j := fun j => by rw [e5, mU_s, e4, mU_n (by decide)]
    have r60 : ∀ j, f5 60 j = if j = p' + 1 then nI x.2 else f2 60 j := fun j => by rw [e5, mU_n (by decide), e4, mU_s]
    refine ⟨fun c => ?_, fun c => ?_⟩
    · rw [r59, r60, if_neg (by omega), if_neg (by omega)]
      exact (a2 i y hy).1 (by omega)
    · rw [r59, r60]
      by_cases c2 : i = p'
      · rw [c2, if_pos rfl, if_pos rfl]
        rw [c2, hx] at hy
        rw [Option.some.inj hy]
        exact ⟨rfl, rfl⟩
      · rw [if_neg (by omega), if_neg (by omega)]
        exact (a2 i y hy).2 (by omega)
  · show (nI p').toNatClampNeg < (nI (p' + 1)).toNatClampNeg
    rw [nI_clamp (by omega), nI_clamp (by omega)]
    omega
theorem p_holds {Q : QV} {kk key r mo : Nat} (hk : kk < 2424) (h14 : f 14 kk = nI key) (hr : r < 2 ^ 31) (hmo : 1 ≤ mo ∧ mo ≤ 20) (hl : H.length ≤ mo) (hH : rHt v f H) (h : ∀ v' f', (∀ i, i ≠ 88 → v' i = v i) → (∀ n, n ≠ 59 → n ≠ 60 → f' n = f n) → rHt v' f' (hdL H mo (key, r)) → Q v' f' g) : r_holds Q (nI kk) (nI r) (nI mo) v f g := by
  obtain ⟨h88, h20, hR⟩ := id hH
  unfold r_holds r_holds_24 r_holds_45
  rw [h88]
  refine w_ne H.length mo (fun c => ?_) (fun c => ?_)
  · refine w_ne H.length mo (fun _ => ?_) (fun c2 => absurd c2 c)
    refine p_holds47 (L := H) hk h14 hr (by omega) hmo.2 h88 h20 (by rw [if_neg c]) hR (fun v' f' a1 a2 a3 => h v' f' a1 a2 ?_)
    unfold hdL
    rw [if_pos (by omega)]; exact a3
  · obtain ⟨x, hx⟩ := get_ex (l := H) (k := H.length - 1) (by omega)
    have e0 := hR _ x hx
    have gD : (H.getD (H.length - 1) (0, 0)).2 = x.2 := by rw [List.getD_eq_getElem?_getD, hx]; rfl
    rw [pk_sub (show 1 ≤ H.length by omega), nI_clamp (show H.length - 1 < 2 ^ 31 by omega), e0.2.1]
    refine ⟨pk_in (H.length - 1) 20 (by omega), pk_lt x.2 r (fun z => ?_) (fun z => ?_) rfl rfl e0.2.2 hr⟩
    · refine w_ne H.length mo (fun c2 => absurd c c2) (fun _ => ?_)
      have dl : H.dropLast.length = H.length - 1 := List.length_dropLast
      rw [← dl]
      refine p_holds47 (L := H.dropLast) hk h14 hr (by rw [dl]; omega) hmo.2 h88 h20 (by rw [if_pos c, dl]; omega) (fun i y hy => hR i y ?_) (fun v' f' a1 a2 a3 => h v' f' a1 a2 ?_)
      · have := get_lt hy
        rw [dl] at this
        rw [List.getElem?_dropLast, if_pos this] at hy
        exact hy
      · unfold hdL
        rw [if_neg (by omega), gD, if_neg (by omega)]; exact a3
    · refine h v f (fun _ _ => rfl) (fun _ _ _ => rfl) ?_
      unfold hdL
      rw [if_neg (by omega), gD, if_pos (by omega)]; exact hH
end HO
