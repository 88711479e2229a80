/-! what the law asks of the class, and what it gets -/
section LL6
variable {S : cS} {dp mc ms x : Nat} {Q : Int32 → cS → Prop}
theorem did_flush (hx : cA S x 11) (h : k_X11_flush (fun r T => (0 + mc ≤ mc ∧ 0 + ms ≤ ms) ∧ Q r T) dp mc ms x S) : kw_L_did Q dp mc ms x (nI 0) S := by
  unfold kw_L_did
  refine w_nz 0 (fun c => absurd c (by decide)) (fun _ => ?_)
  exact ⟨hx, Or.inl ⟨mc, ms, by omega, by omega, h⟩⟩
theorem didX_flush (hx : cA S x 11) (hm : 1 ≤ mc ∧ 6 ≤ ms) (h : kx_X11_flush "java/lang/IllegalStateException" (fun T => (0 + 1 ≤ mc ∧ 0 + 6 ≤ ms) ∧ Q (-7) T) dp 1 6 x S) : kw_L_did Q dp mc ms x (nI 0) S := by
  unfold kw_L_did
  refine w_nz 0 (fun c => absurd c (by decide)) (fun _ => ?_)
  exact ⟨hx, Or.inr ⟨1, 6, ⟨by omega, by omega⟩, h⟩⟩
theorem did_merge (hx : cA S x 11) (h : k_X11_merge (fun r T => (0 + mc ≤ mc ∧ 0 + ms ≤ ms) ∧ Q r T) dp mc ms x S) : kw_L_did Q dp mc ms x (nI 1) S := by
  unfold kw_L_did
  refine w_nz 1 (fun _ => ?_) (fun c => absurd c (by decide))
  refine w_ne 1 1 (fun c => absurd rfl c) (fun _ => ?_)
  exact ⟨hx, Or.inl ⟨mc, ms, by omega, by omega, h⟩⟩
theorem didX_merge (hx : cA S x 11) (hm : 1 ≤ mc ∧ 6 ≤ ms) (h : kx_X11_merge "java/lang/IllegalStateException" (fun T => (0 + 1 ≤ mc ∧ 0 + 6 ≤ ms) ∧ Q (-7) T) dp 1 6 x S) : kw_L_did Q dp mc ms x (nI 1) S := by
  unfold kw_L_did
  refine w_nz 1 (fun _ => ?_) (fun c => absurd c (by decide))
  refine w_ne 1 1 (fun c => absurd rfl c) (fun _ => ?_)
  exact ⟨hx, Or.inr ⟨1, 6, ⟨by omega, by omega⟩, h⟩⟩
theorem did_step (hx : cA S x 11) (h : k_X11_step (fun r T => (0 + mc ≤ mc ∧ 0 + ms ≤ ms) ∧ Q r T) dp mc ms x S) : kw_L_did Q dp mc ms x (nI 2) S := by
  unfold kw_L_did
  refine w_nz 2 (fun _ => ?_) (fun c => absurd c (by decide))
  refine w_ne 2 1 (fun _ => ?_) (fun c => absurd c (by decide))
  refine w_ne 2 2 (fun c => absurd rfl c) (fun _ => ?_)
  exact ⟨hx, Or.inl ⟨mc, ms, by omega, by omega, h⟩⟩
theorem didX_step (hx : cA S x 11) (hm : 1 ≤ mc ∧ 6 ≤ ms) (h : kx_X11_step "java/lang/IllegalStateException" (fun T => (0 + 1 ≤ mc ∧ 0 + 6 ≤ ms) ∧ Q (-7) T) dp 1 6 x S) : kw_L_did Q dp mc ms x (nI 2) S := by
  unfold kw_L_did
  refine w_nz 2 (fun _ => ?_) (fun c => absurd c (by decide))
  refine w_ne 2 1 (fun _ => ?_) (fun c => absurd c (by decide))
  refine w_ne 2 2 (fun c => absurd rfl c) (fun _ => ?_)
  exact ⟨hx, Or.inr ⟨1, 6, ⟨by omega, by omega⟩, h⟩⟩
theorem did_giveUp (hx : cA S x 11) (h : k_X11_giveUp (fun r T => (0 ≤ mc ∧ 0 ≤ ms) ∧ Q r T) dp x S) : kw_L_did Q dp mc ms x (nI 3) S := by
  unfold kw_L_did
  refine w_nz 3 (fun _ => ?_) (fun c => absurd c (by decide))
  refine w_ne 3 1 (fun _ => ?_) (fun c => absurd c (by decide))
  refine w_ne 3 2 (fun _ => ?_) (fun c => absurd c (by decide))
  refine w_ne 3 3 (fun c => absurd rfl c) (fun _ => ?_)
  exact ⟨hx, Or.inl ⟨⟨Nat.zero_le _, Nat.zero_le _⟩, h⟩⟩
theorem didX_giveUp (hx : cA S x 11) (hm : 1 ≤ mc ∧ 6 ≤ ms) (h : kx_X11_giveUp "java/lang/IllegalStateException" (fun T => (0 + 1 ≤ mc ∧ 0 + 6 ≤ ms) ∧ Q (-7) T) dp 1 6 x S) : kw_L_did Q dp mc ms x (nI 3) S := by
  unfold kw_L_did
  refine w_nz 3 (fun _ => ?_) (fun c => absurd c (by decide))
  refine w_ne 3 1 (fun _ => ?_) (fun c => absurd c (by decide))
  refine w_ne 3 2 (fun _ => ?_) (fun c => absurd c (by decide))
  refine w_ne 3 3 (fun c => absurd rfl c) (fun _ => ?_)
  exact ⟨hx, Or.inr ⟨1, 6, ⟨by omega, by omega⟩, h⟩⟩
theorem did_prepare (hx : cA S x 11) (h : k_X11_prepare (fun r T => (0 + mc ≤ mc ∧ 0 + ms ≤ ms) ∧ Q r T) dp mc ms x S) : kw_L_did Q dp mc ms x (nI 4) S := by
  unfold kw_L_did
  refine w_nz 4 (fun _ => ?_) (fun c => absurd c (by decide))
  refine w_ne 4 1 (fun _ => ?_) (fun c => absurd c (by decide))
  refine w_ne 4 2 (fun _ => ?_) (fun c => absurd c (by decide))
  refine w_ne 4 3 (fun _ => ?_) (fun c => absurd c (by decide))
  refine w_ne 4 4 (fun c => absurd rfl c) (fun _ => ?_)
  exact ⟨hx, Or.inl ⟨mc, ms, by omega, by omega, h⟩⟩
theorem didX_prepare (hx : cA S x 11) (hm : 1 ≤ mc ∧ 6 ≤ ms) (h : kx_X11_prepare "java/lang/IllegalStateException" (fun T => (0 + 1 ≤ mc ∧ 0 + 6 ≤ ms) ∧ Q (-7) T) dp 1 6 x S) : kw_L_did Q dp mc ms x (nI 4) S := by
  unfold kw_L_did
  refine w_nz 4 (fun _ => ?_) (fun c => absurd c (by decide))
  refine w_ne 4 1 (fun _ => ?_) (fun c => absurd c (by decide))
  refine w_ne 4 2 (fun _ => ?_) (fun c => absurd c (by decide))
  refine w_ne 4 3 (fun _ => ?_) (fun c => absurd c (by decide))
  refine w_ne 4 4 (fun c => absurd rfl c) (fun _ => ?_)
  exact ⟨hx, Or.inr ⟨1, 6, ⟨by omega, by omega⟩, h⟩⟩
theorem did_finish (hx : cA S x 11) (h : k_X11_finish (fun r T => (0 + mc ≤ mc ∧ 0 + ms ≤ ms) ∧ Q r T) dp mc ms x S) : kw_L_did Q dp mc ms x (nI 5) S := by
  unfold kw_L_did
  refine w_nz 5 (fun _ => ?_) (fun c => absurd c (by decide))
  refine w_ne 5 1 (fun _ => ?_) (fun c => absurd c (by decide))
  refine w_ne 5 2 (fun _ => ?_) (fun c => absurd c (by decide))
  refine w_ne 5 3 (fun _ => ?_) (fun c => absurd c (by decide))
  refine w_ne 5 4 (fun _ => ?_) (fun c => absurd c (by decide))
  refine w_ne 5 5 (fun c => absurd rfl c) (fun _ => ?_)
  exact ⟨hx, Or.inl ⟨mc, ms, by omega, by omega, h⟩⟩
theorem didX_finish (hx : cA S x 11) (hm : 1 ≤ mc ∧ 6 ≤ ms) (h : kx_X11_finish "java/lang/IllegalStateException" (fun T => (0 + 1 ≤ mc ∧ 0 + 6 ≤ ms) ∧ Q (-7) T) dp 1 6 x S) : kw_L_did Q dp mc ms x (nI 5) S := by
  unfold kw_L_did
  refine w_nz 5 (fun _ => ?_) (fun c => absurd c (by decide))
  refine w_ne 5 1 (fun _ => ?_) (fun c => absurd c (by decide))
  refine w_ne 5 2 (fun _ => ?_) (fun c => absurd c (by decide))
  refine w_ne 5 3 (fun _ => ?_) (fun c => absurd c (by decide))
  refine w_ne 5 4 (fun _ => ?_) (fun c => absurd c (by decide))
  refine w_ne 5 5 (fun c => absurd rfl c) (fun _ => ?_)
  exact ⟨hx, Or.inr ⟨1, 6, ⟨by omega, by omega⟩, h⟩⟩
theorem did_open (hx : cA S x 11) (h : k_X11_open (fun r T => (0 + mc ≤ mc ∧ 0 + ms ≤ ms) ∧ Q r T) dp mc ms x S) : kw_L_did Q dp mc ms x (nI 6) S := by
  unfold kw_L_did
  refine w_nz 6 (fun _ => ?_) (fun c => absurd c (by decide))
  refine w_ne 6 1 (fun _ => ?_) (fun c => absurd c (by decide))
  refine w_ne 6 2 (fun _ => ?_) (fun c => absurd c (by decide))
  refine w_ne 6 3 (fun _ => ?_) (fun c => absurd c (by decide))
  refine w_ne 6 4 (fun _ => ?_) (fun c => absurd c (by decide))
  refine w_ne 6 5 (fun _ => ?_) (fun c => absurd c (by decide))
  refine w_ne 6 6 (fun c => absurd rfl c) (fun _ => ?_)
  exact ⟨hx, Or.inl ⟨mc, ms, by omega, by omega, h⟩⟩
theorem didX_open (hx : cA S x 11) (hm : 1 ≤ mc ∧ 6 ≤ ms) (h : kx_X11_open "java/lang/IllegalStateException" (fun T => (0 + 1 ≤ mc ∧ 0 + 6 ≤ ms) ∧ Q (-7) T) dp 1 6 x S) : kw_L_did Q dp mc ms x (nI 6) S := by
  unfold kw_L_did
  refine w_nz 6 (fun _ => ?_) (fun c => absurd c (by decide))
  refine w_ne 6 1 (fun _ => ?_) (fun c => absurd c (by decide))
  refine w_ne 6 2 (fun _ => ?_) (fun c => absurd c (by decide))
  refine w_ne 6 3 (fun _ => ?_) (fun c => absurd c (by decide))
  refine w_ne 6 4 (fun _ => ?_) (fun c => absurd c (by decide))
  refine w_ne 6 5 (fun _ => ?_) (fun c => absurd c (by decide))
  refine w_ne 6 6 (fun c => absurd rfl c) (fun _ => ?_)
  exact ⟨hx, Or.inr ⟨1, 6, ⟨by omega, by omega⟩, h⟩⟩
theorem did_files (hx : cA S x 11) (h : k_X11_files (fun r T => (0 + mc ≤ mc ∧ 0 + ms ≤ ms) ∧ Q r T) dp mc ms x S) : kw_L_did Q dp mc ms x (nI 7) S := by
  unfold kw_L_did
  refine w_nz 7 (fun _ => ?_) (fun c => absurd c (by decide))
  refine w_ne 7 1 (fun _ => ?_) (fun c => absurd c (by decide))
  refine w_ne 7 2 (fun _ => ?_) (fun c => absurd c (by decide))
  refine w_ne 7 3 (fun _ => ?_) (fun c => absurd c (by decide))
  refine w_ne 7 4 (fun _ => ?_) (fun c => absurd c (by decide))
  refine w_ne 7 5 (fun _ => ?_) (fun c => absurd c (by decide))
  refine w_ne 7 6 (fun _ => ?_) (fun c => absurd c (by decide))
  refine w_ne 7 7 (fun c => absurd rfl c) (fun _ => ?_)
  exact ⟨hx, Or.inl ⟨mc, ms, by omega, by omega, h⟩⟩
theorem didX_files (hx : cA S x 11) (hm : 1 ≤ mc ∧ 6 ≤ ms) (h : kx_X11_files "java/lang/IllegalStateException" (fun T => (0 + 1 ≤ mc ∧ 0 + 6 ≤ ms) ∧ Q (-7) T) dp 1 6 x S) : kw_L_did Q dp mc ms x (nI 7) S := by
  unfold kw_L_did
  refine w_nz 7 (fun _ => ?_) (fun c => absurd c (by decide))
  refine w_ne 7 1 (fun _ => ?_) (fun c => absurd c (by decide))
  refine w_ne 7 2 (fun _ => ?_) (fun c => absurd c (by decide))
  refine w_ne 7 3 (fun _ => ?_) (fun c => absurd c (by decide))
  refine w_ne 7 4 (fun _ => ?_) (fun c => absurd c (by decide))
  refine w_ne 7 5 (fun _ => ?_) (fun c => absurd c (by decide))
  refine w_ne 7 6 (fun _ => ?_) (fun c => absurd c (by decide))
  refine w_ne 7 7 (fun c => absurd rfl c) (fun _ => ?_)
  exact ⟨hx, Or.inr ⟨1, 6, ⟨by omega, by omega⟩, h⟩⟩
theorem did_due (hx : cA S x 11) (h : k_X11_due (fun r T => (0 ≤ mc ∧ 0 ≤ ms) ∧ Q r T) dp x S) : kw_L_did Q dp mc ms x (nI 8) S := by
  unfold kw_L_did
  refine w_nz 8 (fun _ => ?_) (fun c => absurd c (by decide))
  refine w_ne 8 1 (fun _ => ?_) (fun c => absurd c (by decide))
  refine w_ne 8 2 (fun _ => ?_) (fun c => absurd c (by decide))
  refine w_ne 8 3 (fun _ => ?_) (fun c => absurd c (by decide))
  refine w_ne 8 4 (fun _ => ?_) (fun c => absurd c (by decide))
  refine w_ne 8 5 (fun _ => ?_) (fun c => absurd c (by decide))
  refine w_ne 8 6 (fun _ => ?_) (fun c => absurd c (by decide))
  refine w_ne 8 7 (fun _ => ?_) (fun c => absurd c (by decide))
  refine w_ne 8 8 (fun c => absurd rfl c) (fun _ => ?_)
  exact ⟨hx, Or.inl ⟨⟨Nat.zero_le _, Nat.zero_le _⟩, h⟩⟩
theorem didX_due (hx : cA S x 11) (hm : 1 ≤ mc ∧ 6 ≤ ms) (h : kx_X11_due "java/lang/IllegalStateException" (fun T => (0 + 1 ≤ mc ∧ 0 + 6 ≤ ms) ∧ Q (-7) T) dp 1 6 x S) : kw_L_did Q dp mc ms x (nI 8) S := by
  unfold kw_L_did
  refine w_nz 8 (fun _ => ?_) (fun c => absurd c (by decide))
  refine w_ne 8 1 (fun _ => ?_) (fun c => absurd c (by decide))
  refine w_ne 8 2 (fun _ => ?_) (fun c => absurd c (by decide))
  refine w_ne 8 3 (fun _ => ?_) (fun c => absurd c (by decide))
  refine w_ne 8 4 (fun _ => ?_) (fun c => absurd c (by decide))
  refine w_ne 8 5 (fun _ => ?_) (fun c => absurd c (by decide))
  refine w_ne 8 6 (fun _ => ?_) (fun c => absurd c (by decide))
  refine w_ne 8 7 (fun _ => ?_) (fun c => absurd c (by decide))
  refine w_ne 8 8 (fun c => absurd rfl c) (fun _ => ?_)
  exact ⟨hx, Or.inr ⟨1, 6, ⟨by omega, by omega⟩, h⟩⟩
theorem did_segments (hx : cA S x 11) (h : k_X11_segments (fun r T => (0 ≤ mc ∧ 0 ≤ ms) ∧ Q r T) dp x S) : kw_L_did Q dp mc ms x (nI 9) S := by
  unfold kw_L_did
  refine w_nz 9 (fun _ => ?_) (fun c => absurd c (by decide))
  refine w_ne 9 1 (fun _ => ?_) (fun c => absurd c (by decide))
  refine w_ne 9 2 (fun _ => ?_) (fun c => absurd c (by decide))
  refine w_ne 9 3 (fun _ => ?_) (fun c => absurd c (by decide))
  refine w_ne 9 4 (fun _ => ?_) (fun c => absurd c (by decide))
  refine w_ne 9 5 (fun _ => ?_) (fun c => absurd c (by decide))
  refine w_ne 9 6 (fun _ => ?_) (fun c => absurd c (by decide))
  refine w_ne 9 7 (fun _ => ?_) (fun c => absurd c (by decide))
  refine w_ne 9 8 (fun _ => ?_) (fun c => absurd c (by decide))
  exact ⟨hx, Or.inl ⟨⟨Nat.zero_le _, Nat.zero_le _⟩, h⟩⟩
theorem didX_segments (hx : cA S x 11) (hm : 1 ≤ mc ∧ 6 ≤ ms) (h : kx_X11_segments "java/lang/IllegalStateException" (fun T => (0 + 1 ≤ mc ∧ 0 + 6 ≤ ms) ∧ Q (-7) T) dp 1 6 x S) : kw_L_did Q dp mc ms x (nI 9) S := by
  unfold kw_L_did
  refine w_nz 9 (fun _ => ?_) (fun c => absurd c (by decide))
  refine w_ne 9 1 (fun _ => ?_) (fun c => absurd c (by decide))
  refine w_ne 9 2 (fun _ => ?_) (fun c => absurd c (by decide))
  refine w_ne 9 3 (fun _ => ?_) (fun c => absurd c (by decide))
  refine w_ne 9 4 (fun _ => ?_) (fun c => absurd c (by decide))
  refine w_ne 9 5 (fun _ => ?_) (fun c => absurd c (by decide))
  refine w_ne 9 6 (fun _ => ?_) (fun c => absurd c (by decide))
  refine w_ne 9 7 (fun _ => ?_) (fun c => absurd c (by decide))
  refine w_ne 9 8 (fun _ => ?_) (fun c => absurd c (by decide))
  exact ⟨hx, Or.inr ⟨1, 6, ⟨by omega, by omega⟩, h⟩⟩
theorem did_del {y : Int32} (hx : cA S x 11) (h : k_X11_delete (fun r T => ∃ b : Bool, r = bI b ∧ Q (nI (if b = true then 1 else 0)) T) dp x y S) (hmono : ∀ {P P' : Int32 → cS → Prop}, (∀ r T, P r T → P' r T) → k_X11_delete P dp x y S → k_X11_delete P' dp x y S) : kw_L_deleted Q dp mc ms x y S := by
  unfold kw_L_deleted
  refine ⟨hx, Or.inl ⟨⟨Nat.zero_le _, Nat.zero_le _⟩, hmono (fun r T hr => ?_) h⟩⟩
  obtain ⟨b, rfl, hq⟩ := hr
  exact w_B0 (fun e => ⟨⟨Nat.zero_le _, Nat.zero_le _⟩, by rw [e] at hq; exact hq⟩) (fun e => ⟨⟨Nat.zero_le _, Nat.zero_le _⟩, by rw [e] at hq; exact hq⟩)
theorem didX_del {y : Int32} (hx : cA S x 11) (hm : 1 ≤ mc ∧ 6 ≤ ms) (h : kx_X11_delete "java/lang/IllegalStateException" (fun T => (0 + 1 ≤ mc ∧ 0 + 6 ≤ ms) ∧ Q (-7) T) dp 1 6 x y S) : kw_L_deleted Q dp mc ms x y S := by
  unfold kw_L_deleted
  exact ⟨hx, Or.inr ⟨1, 6, ⟨by omega, by omega⟩, h⟩⟩
theorem did_add {y : Int32} (hx : cA S x 11) (h : k_X11_add (fun r T => (0 + mc ≤ mc ∧ 0 + ms ≤ ms) ∧ Q r T) dp mc ms x y S) : kw_L_added Q dp mc ms x y S := by
  unfold kw_L_added
  exact ⟨hx, Or.inl ⟨mc, ms, by omega, by omega, h⟩⟩
theorem didX_add {y : Int32} (hx : cA S x 11) (hm : 1 ≤ mc ∧ 6 ≤ ms) (h : kx_X11_add "java/lang/IllegalStateException" (fun T => (0 + 1 ≤ mc ∧ 0 + 6 ≤ ms) ∧ Q (-7) T) dp 1 6 x y S) : kw_L_added Q dp mc ms x y S := by
  unfold kw_L_added
  exact ⟨hx, Or.inr ⟨1, 6, ⟨by omega, by omega⟩, h⟩⟩
theorem did_look {y : Int32} (hx : cA S x 11) (h : k_X11_look (fun r T => (0 + mc ≤ mc ∧ 0 + ms ≤ ms) ∧ Q r T) dp mc ms x y S) : kw_L_looked Q dp mc ms x y S := by
  unfold kw_L_looked
  exact ⟨hx, Or.inl ⟨mc, ms, by omega, by omega, h⟩⟩
theorem didX_look {y : Int32} (hx : cA S x 11) (hm : 1 ≤ mc ∧ 6 ≤ ms) (h : kx_X11_look "java/lang/IllegalStateException" (fun T => (0 + 1 ≤ mc ∧ 0 + 6 ≤ ms) ∧ Q (-7) T) dp 1 6 x y S) : kw_L_looked Q dp mc ms x y S := by
  unfold kw_L_looked
  exact ⟨hx, Or.inr ⟨1, 6, ⟨by omega, by omega⟩, h⟩⟩
end LL6
