/-! the law's methods as predicates, and their contracts -/
section Ss_L_holds
variable {p : Program} {l : Launch} {e : Env} {s : State} {m : MethodId} {args : Array Value} {below : List Frame} {meth : Method} {c : Code} {A : Nat → Prop} {D : va_G} {Y : cY} {tp dp : Nat}
set_option maxRecDepth 20000 in
theorem tbs_L_holds_848 {mc ms : Nat} (C : cC p s m args meth c cL_holds 24 (some .boolean) A D Y tp dp RL) {sc L : Nat} {xs : Nat → Int32} (hX : va_X sc L xs s s.heap) (hbl : sc < s.heap.size) (hbA : ¬ A sc) (hL : L ≤ 260) (hlt : l.stackTraces = false) {post : Int32 → cS → Prop}   (x1 : Nat) (x2 : Nat) (x4 : Nat) (x5 : Nat) (x6 : Nat) (x8 : Nat) (x9 : Nat) (x10 : Nat) (x11 : Nat) (x12 : Nat) (x17 : Nat) (x18 : Int32) (cd dd : Nat) (S : cS) (h : ks_L_holds_848 post dp mc ms L  x1 x2 x4 x5 x6 x8 x9 x10 x11 x12 x17 x18 cd dd S) : cG p l e (cRm 14 mc ms 346) s m args below meth c A D Y 24 (MQ below (cQi post D Y A) args s mc ms A) cd dd 848 [(1, .ref x1), (2, .ref x2), (4, .ref x4), (5, .ref x5), (6, .ref x6), (8, .ref x8), (9, .ref x9), (10, .ref x10), (11, .ref x11), (12, .ref x12), (17, .ref x17), (18, .int x18)] [] S := by
  unfold ks_L_holds_848 at h
  refine cg_iload C 11 rfl dL_holds_848 ?_
  refine cg_if_eq C 883 (by decide) dL_holds_850 (fun c_ => ?_) (fun c_ => ?_)
  · have h := h.1 c_
    refine cg_iconst C (x := nI 0) rfl dL_holds_883 ?_
    obtain ⟨hb_884, h⟩ := h
    refine cg_cast (.int (bI false)) rfl ?_
    exact cg_zret C (bI_nar _) h dL_holds_884 hb_884.1 hb_884.2
  · have h := h.2 c_
    refine cg_aload_n C (i := 1) rfl 0 rfl dL_holds_853 ?_
    refine cg_aload_n C (i := 2) rfl 1 rfl dL_holds_854 ?_
    refine cg_aload C 2 rfl dL_holds_855 ?_
    refine cg_aload C 3 rfl dL_holds_857 ?_
    refine cg_aload C 4 rfl dL_holds_859 ?_
    refine cg_aload C 5 rfl dL_holds_861 ?_
    refine cg_aload C 6 rfl dL_holds_863 ?_
    refine cg_aload C 7 rfl dL_holds_865 ?_
    refine cg_aload C 8 rfl dL_holds_867 ?_
    refine cg_aload C 9 rfl dL_holds_869 ?_
    refine cg_aload C 10 rfl dL_holds_871 ?_
    obtain ⟨mc58, ms59, hm_1, hm_2, h⟩ := h
    refine cg_callsi C (t_L_isIndex l hlt mc58 ms59 x1 x2 x4 x5 x6 x8 x9 x10 x11 x12 x17 S dp h) cc_L_312 rfl ⟨by decide, by decide⟩ ⟨hm_1, hm_2⟩ rfl (Nat.le_of_ble_eq_true rfl) dL_holds_873 (fun r_60 S_60 h => ?_)
    refine cg_if_eq C 883 (by decide) dL_holds_876 (fun c_ => ?_) (fun c_ => ?_)
    · have h := h.1 c_
      refine cg_iconst C (x := nI 0) rfl dL_holds_883 ?_
      obtain ⟨hb_884, h⟩ := h
      refine cg_cast (.int (bI false)) rfl ?_
      exact cg_zret C (bI_nar _) h dL_holds_884 hb_884.1 hb_884.2
    · have h := h.2 c_
      refine cg_iconst C (x := nI 1) rfl dL_holds_879 ?_
      refine cg_goto C 884 (by decide) dL_holds_880 ?_
      obtain ⟨hb_884, h⟩ := h
      refine cg_cast (.int (bI true)) rfl ?_
      exact cg_zret C (bI_nar _) h dL_holds_884 hb_884.1 hb_884.2
set_option maxRecDepth 20000 in
theorem tbs_L_holds_840 {mc ms : Nat} (C : cC p s m args meth c cL_holds 24 (some .boolean) A D Y tp dp RL) {sc L : Nat} {xs : Nat → Int32} (hX : va_X sc L xs s s.heap) (hbl : sc < s.heap.size) (hbA : ¬ A sc) (hL : L ≤ 260) (hlt : l.stackTraces = false) {post : Int32 → cS → Prop} {R116 : Nat → Nat → Nat → Nat → Nat → Nat → Nat → Nat → Nat → Nat → Nat → Nat → Nat → Nat → Nat → Nat → Nat → Int32 → Int32 → Nat → Nat → cS → Prop} (hR116 : ∀ (x1 : Nat) (x2 : Nat) (x3 : Nat) (x4 : Nat) (x5 : Nat) (x6 : Nat) (x7 : Nat) (x8 : Nat) (x9 : Nat) (x10 : Nat) (x11 : Nat) (x12 : Nat) (x13 : Nat) (x14 : Nat) (x15 : Nat) (x16 : Nat) (x17 : Nat) (x18 : Int32) (x19 : Int32) (cd dd : Nat) (S : cS), R116 x1 x2 x3 x4 x5 x6 x7 x8 x9 x10 x11 x12 x13 x14 x15 x16 x17 x18 x19 cd dd S → cG p l e (cRm 14 mc ms 346) s m args below meth c A D Y 24 (MQ below (cQi post D Y A) args s mc ms A) cd dd 116 [(0, .ref sc), (1, .ref x1), (2, .ref x2), (3, .ref x3), (4, .ref x4), (5, .ref x5), (6, .ref x6), (7, .ref x7), (8, .ref x8), (9, .ref x9), (10, .ref x10), (11, .ref x11), (12, .ref x12), (13, .ref x13), (14, .ref x14), (15, .ref x15), (16, .ref x16), (17, .ref x17), (18, .int x18), (19, .int x19)] [] S) (x1 : Nat) (x2 : Nat) (x3 : Nat) (x4 : Nat) (x5 : Nat) (x6 : Nat) (x7 : Nat) (x8 : Nat) (x9 : Nat) (x10 : Nat) (x11 : Nat) (x12 : Nat) (x13 : Nat) (x14 : Nat) (x15 : Nat) (x16 : Nat) (x17 : Nat) (x19 : Int32) (t0 : Int32) (cd dd : Nat) (S : cS) (h : ks_L_holds_840 post dp mc ms L R116 x1 x2 x3 x4 x5 x6 x7 x8 x9 x10 x11 x12 x13 x14 x15 x16 x17 x19 t0 cd dd S) : cG p l e (cRm 14 mc ms 346) s m args below meth c A D Y 24 (MQ below (cQi post D Y A) args s mc ms A) cd dd 840 [(0, .ref sc), (1, .ref x1), (2, .ref x2), (3, .ref x3), (4, .ref x4), (5, .ref x5), (6, .ref x6), (7, .ref x7), (8, .ref x8), (9, .ref x9), (10, .ref x10), (11, .ref x11), (12, .ref x12), (13, .ref x13), (14, .ref x14), (15, .ref x15), (16, .ref x16), (17, .ref x17), (19, .int x19)] [.int t0] S := by
  unfold ks_L_holds_840 at h
  refine cg_istore C (lv' := [(18, .int t0), (0, .ref sc), (1, .ref x1), (2, .ref x2), (3, .ref x3), (4, .ref x4), (5, .ref x5), (6, .ref x6), (7, .ref x7), (8, .ref x8), (9, .ref x9), (10, .ref x10), (11, .ref x11), (12, .ref x12), (13, .ref x13), (14, .ref x14), (15, .ref x15), (16, .ref x16), (17, .ref x17), (19, .int x19)]) (Nat.le_of_ble_eq_true rfl) rfl dL_holds_840 ?_
  obtain ⟨x19_66, e_x19_66⟩ : ∃ z : Int32, z = x19 + nI 1 := ⟨_, rfl⟩
  have h := h x19_66 e_x19_66
  refine cg_iinc C (lv' := [(19, .int x19_66), (18, .int t0), (0, .ref sc), (1, .ref x1), (2, .ref x2), (3, .ref x3), (4, .ref x4), (5, .ref x5), (6, .ref x6), (7, .ref x7), (8, .ref x8), (9, .ref x9), (10, .ref x10), (11, .ref x11), (12, .ref x12), (13, .ref x13), (14, .ref x14), (15, .ref x15), (16, .ref x16), (17, .ref x17)]) 19 rfl (by rw [e_x19_66]; rfl) (Nat.le_of_ble_eq_true rfl) rfl dL_holds_842 ?_
  refine cg_goto C 116 (by decide) dL_holds_845 ?_
  exact cg_sub [2, 3, 4, 5, 6, 7, 8, 9, 10, 11, 12, 13, 14, 15, 16, 17, 18, 19, 1, 0] rfl (hR116 x1 x2 x3 x4 x5 x6 x7 x8 x9 x10 x11 x12 x13 x14 x15 x16 x17 t0 x19_66 cd dd S h)
set_option maxRecDepth 20000 in
theorem tbs_L_holds_839 {mc ms : Nat} (C : cC p s m args meth c cL_holds 24 (some .boolean) A D Y tp dp RL) {sc L : Nat} {xs : Nat → Int32} (hX : va_X sc L xs s s.heap) (hbl : sc < s.heap.size) (hbA : ¬ A sc) (hL : L ≤ 260) (hlt : l.stackTraces = false) {post : Int32 → cS → Prop} {R116 : Nat → Nat → Nat → Nat → Nat → Nat → Nat → Nat → Nat → Nat → Nat → Nat → Nat → Nat → Nat → Nat → Nat → Int32 → Int32 → Nat → Nat → cS → Prop} (hR116 : ∀ (x1 : Nat) (x2 : Nat) (x3 : Nat) (x4 : Nat) (x5 : Nat) (x6 : Nat) (x7 : Nat) (x8 : Nat) (x9 : Nat) (x10 : Nat) (x11 : Nat) (x12 : Nat) (x13 : Nat) (x14 : Nat) (x15 : Nat) (x16 : Nat) (x17 : Nat) (x18 : Int32) (x19 : Int32) (cd dd : Nat) (S : cS), R116 x1 x2 x3 x4 x5 x6 x7 x8 x9 x10 x11 x12 x13 x14 x15 x16 x17 x18 x19 cd dd S → cG p l e (cRm 14 mc ms 346) s m args below meth c A D Y 24 (MQ below (cQi post D Y A) args s mc ms A) cd dd 116 [(0, .ref sc), (1, .ref x1), (2, .ref x2), (3, .ref x3), (4, .ref x4), (5, .ref x5), (6, .ref x6), (7, .ref x7), (8, .ref x8), (9, .ref x9), (10, .ref x10), (11, .ref x11), (12, .ref x12), (13, .ref x13), (14, .ref x14), (15, .ref x15), (16, .ref x16), (17, .ref x17), (18, .int x18), (19, .int x19)] [] S) (x1 : Nat) (x2 : Nat) (x3 : Nat) (x4 : Nat) (x5 : Nat) (x6 : Nat) (x7 : Nat) (x8 : Nat) (x9 : Nat) (x10 : Nat) (x11 : Nat) (x12 : Nat) (x13 : Nat) (x14 : Nat) (x15 : Nat) (x16 : Nat) (x17 : Nat) (x19 : Int32) (cd dd : Nat) (S : cS) (h : ks_L_holds_839 post dp mc ms L R116 x1 x2 x3 x4 x5 x6 x7 x8 x9 x10 x11 x12 x13 x14 x15 x16 x17 x19 cd dd S) : cG p l e (cRm 14 mc ms 346) s m args below meth c A D Y 24 (MQ below (cQi post D Y A) args s mc ms A) cd dd 839 [(0, .ref sc), (1, .ref x1), (2, .ref x2), (3, .ref x3), (4, .ref x4), (5, .ref x5), (6, .ref x6), (7, .ref x7), (8, .ref x8), (9, .ref x9), (10, .ref x10), (11, .ref x11), (12, .ref x12), (13, .ref x13), (14, .ref x14), (15, .ref x15), (16, .ref x16), (17, .ref x17), (19, .int x19)] [] S := by
  unfold ks_L_holds_839 at h
  refine cg_iconst C (x := nI 0) rfl dL_holds_839 ?_
  exact cg_sub [0, 1, 2, 3, 4, 5, 6, 7, 8, 9, 10, 11, 12, 13, 14, 15, 16, 17, 18] rfl (tbs_L_holds_840 C hX hbl hbA hL hlt hR116 x1 x2 x3 x4 x5 x6 x7 x8 x9 x10 x11 x12 x13 x14 x15 x16 x17 x19 ((nI 0)) cd dd S h)
set_option maxRecDepth 20000 in
theorem tbs_L_holds_796 {mc ms : Nat} (C : cC p s m args meth c cL_holds 24 (some .boolean) A D Y tp dp RL) {sc L : Nat} {xs : Nat → Int32} (hX : va_X sc L xs s s.heap) (hbl : sc < s.heap.size) (hbA : ¬ A sc) (hL : L ≤ 260) (hlt : l.stackTraces = false) {post : Int32 → cS → Prop} {R116 : Nat → Nat → Nat → Nat → Nat → Nat → Nat → Nat → Nat → Nat → Nat → Nat → Nat → Nat → Nat → Nat → Nat → Int32 → Int32 → Nat → Nat → cS → Prop} (hR116 : ∀ (x1 : Nat) (x2 : Nat) (x3 : Nat) (x4 : Nat) (x5 : Nat) (x6 : Nat) (x7 : Nat) (x8 : Nat) (x9 : Nat) (x10 : Nat) (x11 : Nat) (x12 : Nat) (x13 : Nat) (x14 : Nat) (x15 : Nat) (x16 : Nat) (x17 : Nat) (x18 : Int32) (x19 : Int32) (cd dd : Nat) (S : cS), R116 x1 x2 x3 x4 x5 x6 x7 x8 x9 x10 x11 x12 x13 x14 x15 x16 x17 x18 x19 cd dd S → cG p l e (cRm 14 mc ms 346) s m args below meth c A D Y 24 (MQ below (cQi post D Y A) args s mc ms A) cd dd 116 [(0, .ref sc), (1, .ref x1), (2, .ref x2), (3, .ref x3), (4, .ref x4), (5, .ref x5), (6, .ref x6), (7, .ref x7), (8, .ref x8), (9, .ref x9), (10, .ref x10), (11, .ref x11), (12, .ref x12), (13, .ref x13), (14, .ref x14), (15, .ref x15), (16, .ref x16), (17, .ref x17), (18, .int x18), (19, .int x19)] [] S) (x1 : Nat) (x2 : Nat) (x3 : Nat) (x4 : Nat) (x5 : Nat) (x6 : Nat) (x7 : Nat) (x8 : Nat) (x9 : Nat) (x10 : Nat) (x11 : Nat) (x12 : Nat) (x13 : Nat) (x14 : Nat) (x15 : Nat) (x16 : Nat) (x17 : Nat) (x18 : Int32) (x19 : Int32) (cd dd : Nat) (S : cS) (h : ks_L_holds_796 post dp mc ms L R116 x1 x2 x3 x4 x5 x6 x7 x8 x9 x10 x11 x12 x13 x14 x15 x16 x17 x18 x19 cd dd S) : cG p l e (cRm 14 mc ms 346) s m args below meth c A D Y 24 (MQ below (cQi post D Y A) args s mc ms A) cd dd 796 [(0, .ref sc), (1, .ref x1), (2, .ref x2), (3, .ref x3), (4, .ref x4), (5, .ref x5), (6, .ref x6), (7, .ref x7), (8, .ref x8), (9, .ref x9), (10, .ref x10), (11, .ref x11), (12, .ref x12), (13, .ref x13), (14, .ref x14), (15, .ref x15), (16, .ref x16), (17, .ref x17), (18, .int x18), (19, .int x19)] [] S := by
  unfold ks_L_holds_796 at h
  refine cg_iload C 18 rfl dL_holds_796 ?_
  refine cg_if_eq C 839 (by decide) dL_holds_798 (fun c_ => ?_) (fun c_ => ?_)
  · have h := h.1 c_
    exact cg_sub [0, 1, 2, 3, 4, 5, 6, 7, 8, 9, 10, 11, 12, 13, 14, 15, 16, 17, 19] rfl (tbs_L_holds_839 C hX hbl hbA hL hlt hR116 x1 x2 x3 x4 x5 x6 x7 x8 x9 x10 x11 x12 x13 x14 x15 x16 x17 x19 cd dd S h)
  · have h := h.2 c_
    refine cg_iload C 19 rfl dL_holds_801 ?_
    refine cg_iconst C (x := nI 4) rfl dL_holds_803 ?_
    refine cg_irem C (by decide) dL_holds_804 ?_
    refine cg_iconst C (x := nI 3) rfl dL_holds_805 ?_
    refine cg_icmp_lt C 835 (by decide) dL_holds_806 (fun c_ => ?_) (fun c_ => ?_)
    · have h := h.1 c_
      refine cg_iconst C (x := nI 1) rfl dL_holds_835 ?_
      refine cg_goto C 840 (by decide) dL_holds_836 ?_
      exact cg_sub [0, 1, 2, 3, 4, 5, 6, 7, 8, 9, 10, 11, 12, 13, 14, 15, 16, 17, 19] rfl (tbs_L_holds_840 C hX hbl hbA hL hlt hR116 x1 x2 x3 x4 x5 x6 x7 x8 x9 x10 x11 x12 x13 x14 x15 x16 x17 x19 ((nI 1)) cd dd S h)
    · have h := h.2 c_
      refine cg_aload_n C (i := 1) rfl 1 rfl dL_holds_809 ?_
      refine cg_aload_n C (i := 2) rfl 2 rfl dL_holds_810 ?_
      refine cg_aload C 4 rfl dL_holds_811 ?_
      refine cg_aload C 5 rfl dL_holds_813 ?_
      refine cg_aload C 6 rfl dL_holds_815 ?_
      refine cg_aload C 8 rfl dL_holds_817 ?_
      refine cg_aload C 9 rfl dL_holds_819 ?_
      refine cg_aload C 10 rfl dL_holds_821 ?_
      refine cg_aload C 11 rfl dL_holds_823 ?_
      refine cg_aload C 12 rfl dL_holds_825 ?_
      refine cg_aload C 17 rfl dL_holds_827 ?_
      obtain ⟨mc67, ms68, hm_1, hm_2, h⟩ := h
      refine cg_callsi C (t_L_isIndex l hlt mc67 ms68 x1 x2 x4 x5 x6 x8 x9 x10 x11 x12 x17 S dp h) cc_L_312 rfl ⟨by decide, by decide⟩ ⟨hm_1, hm_2⟩ rfl (Nat.le_of_ble_eq_true rfl) dL_holds_829 (fun r_69 S_69 h => ?_)
      refine cg_if_eq C 839 (by decide) dL_holds_832 (fun c_ => ?_) (fun c_ => ?_)
      · have h := h.1 c_
        exact cg_sub [0, 1, 2, 3, 4, 5, 6, 7, 8, 9, 10, 11, 12, 13, 14, 15, 16, 17, 19] rfl (tbs_L_holds_839 C hX hbl hbA hL hlt hR116 x1 x2 x3 x4 x5 x6 x7 x8 x9 x10 x11 x12 x13 x14 x15 x16 x17 x19 (cd + mc67) (dd + ms68) S_69 h)
      · have h := h.2 c_
        refine cg_iconst C (x := nI 1) rfl dL_holds_835 ?_
        refine cg_goto C 840 (by decide) dL_holds_836 ?_
        exact cg_sub [0, 1, 2, 3, 4, 5, 6, 7, 8, 9, 10, 11, 12, 13, 14, 15, 16, 17, 19] rfl (tbs_L_holds_840 C hX hbl hbA hL hlt hR116 x1 x2 x3 x4 x5 x6 x7 x8 x9 x10 x11 x12 x13 x14 x15 x16 x17 x19 ((nI 1)) (cd + mc67) (dd + ms68) S_69 h)
set_option maxRecDepth 20000 in
theorem tbs_L_holds_587 {mc ms : Nat} (C : cC p s m args meth c cL_holds 24 (some .boolean) A D Y tp dp RL) {sc L : Nat} {xs : Nat → Int32} (hX : va_X sc L xs s s.heap) (hbl : sc < s.heap.size) (hbA : ¬ A sc) (hL : L ≤ 260) (hlt : l.stackTraces = false) {post : Int32 → cS → Prop} {R116 : Nat → Nat → Nat → Nat → Nat → Nat → Nat → Nat → Nat → Nat → Nat → Nat → Nat → Nat → Nat → Nat → Nat → Int32 → Int32 → Nat → Nat → cS → Prop} (hR116 : ∀ (x1 : Nat) (x2 : Nat) (x3 : Nat) (x4 : Nat) (x5 : Nat) (x6 : Nat) (x7 : Nat) (x8 : Nat) (x9 : Nat) (x10 : Nat) (x11 : Nat) (x12 : Nat) (x13 : Nat) (x14 : Nat) (x15 : Nat) (x16 : Nat) (x17 : Nat) (x18 : Int32) (x19 : Int32) (cd dd : Nat) (S : cS), R116 x1 x2 x3 x4 x5 x6 x7 x8 x9 x10 x11 x12 x13 x14 x15 x16 x17 x18 x19 cd dd S → cG p l e (cRm 14 mc ms 346) s m args below meth c A D Y 24 (MQ below (cQi post D Y A) args s mc ms A) cd dd 116 [(0, .ref sc), (1, .ref x1), (2, .ref x2), (3, .ref x3), (4, .ref x4), (5, .ref x5), (6, .ref x6), (7, .ref x7), (8, .ref x8), (9, .ref x9), (10, .ref x10), (11, .ref x11), (12, .ref x12), (13, .ref x13), (14, .ref x14), (15, .ref x15), (16, .ref x16), (17, .ref x17), (18, .int x18), (19, .int x19)] [] S) (x1 : Nat) (x2 : Nat) (x3 : Nat) (x4 : Nat) (x5 : Nat) (x6 : Nat) (x7 : Nat) (x8 : Nat) (x9 : Nat) (x10 : Nat) (x11 : Nat) (x12 : Nat) (x13 : Nat) (x14 : Nat) (x15 : Nat) (x16 : Nat) (x17 : Nat) (x19 : Int32) (cd dd : Nat) (S : cS) (h : ks_L_holds_587 post dp mc ms L R116 x1 x2 x3 x4 x5 x6 x7 x8 x9 x10 x11 x12 x13 x14 x15 x16 x17 x19 cd dd S) : cG p l e (cRm 14 mc ms 346) s m args below meth c A D Y 24 (MQ below (cQi post D Y A) args s mc ms A) cd dd 587 [(0, .ref sc), (1, .ref x1), (2, .ref x2), (3, .ref x3), (4, .ref x4), (5, .ref x5), (6, .ref x6), (7, .ref x7), (8, .ref x8), (9, .ref x9), (10, .ref x10), (11, .ref x11), (12, .ref x12), (13, .ref x13), (14, .ref x14), (15, .ref x15), (16, .ref x16), (17, .ref x17), (19, .int x19)] [] S := by
  unfold ks_L_holds_587 at h
  refine cg_aload_n C (i := 1) rfl 1 rfl dL_holds_587 ?_
  refine cg_aload C 6 rfl dL_holds_588 ?_
  refine cg_aload C 7 rfl dL_holds_590 ?_
  refine cg_aload C 8 rfl dL_holds_592 ?_
  refine cg_aload C 9 rfl dL_holds_594 ?_
  refine cg_aload C 17 rfl dL_holds_596 ?_
  obtain ⟨mc63, ms64, hm_1, hm_2, h⟩ := h
  refine cg_callsi C (t_L_opens l hlt mc63 ms64 x1 x6 x7 x8 x9 x17 S dp h) cc_L_293 rfl ⟨by decide, by decide⟩ ⟨hm_1, hm_2⟩ rfl (Nat.le_of_ble_eq_true rfl) dL_holds_598 (fun r_65 S_65 h => ?_)
  refine cg_istore C (lv' := [(18, .int r_65), (0, .ref sc), (1, .ref x1), (2, .ref x2), (3, .ref x3), (4, .ref x4), (5, .ref x5), (6, .ref x6), (7, .ref x7), (8, .ref x8), (9, .ref x9), (10, .ref x10), (11, .ref x11), (12, .ref x12), (13, .ref x13), (14, .ref x14), (15, .ref x15), (16, .ref x16), (17, .ref x17), (19, .int x19)]) (Nat.le_of_ble_eq_true rfl) rfl dL_holds_601 ?_
  refine cg_goto C 796 (by decide) dL_holds_603 ?_
  exact cg_sub [1, 2, 3, 4, 5, 6, 7, 8, 9, 10, 11, 12, 13, 14, 15, 16, 17, 18, 0, 19] rfl (tbs_L_holds_796 C hX hbl hbA hL hlt hR116 x1 x2 x3 x4 x5 x6 x7 x8 x9 x10 x11 x12 x13 x14 x15 x16 x17 r_65 x19 (cd + mc63) (dd + ms64) S_65 h)
set_option maxRecDepth 20000 in
theorem tbs_L_holds_794 {mc ms : Nat} (C : cC p s m args meth c cL_holds 24 (some .boolean) A D Y tp dp RL) {sc L : Nat} {xs : Nat → Int32} (hX : va_X sc L xs s s.heap) (hbl : sc < s.heap.size) (hbA : ¬ A sc) (hL : L ≤ 260) (hlt : l.stackTraces = false) {post : Int32 → cS → Prop} {R116 : Nat → Nat → Nat → Nat → Nat → Nat → Nat → Nat → Nat → Nat → Nat → Nat → Nat → Nat → Nat → Nat → Nat → Int32 → Int32 → Nat → Nat → cS → Prop} (hR116 : ∀ (x1 : Nat) (x2 : Nat) (x3 : Nat) (x4 : Nat) (x5 : Nat) (x6 : Nat) (x7 : Nat) (x8 : Nat) (x9 : Nat) (x10 : Nat) (x11 : Nat) (x12 : Nat) (x13 : Nat) (x14 : Nat) (x15 : Nat) (x16 : Nat) (x17 : Nat) (x18 : Int32) (x19 : Int32) (cd dd : Nat) (S : cS), R116 x1 x2 x3 x4 x5 x6 x7 x8 x9 x10 x11 x12 x13 x14 x15 x16 x17 x18 x19 cd dd S → cG p l e (cRm 14 mc ms 346) s m args below meth c A D Y 24 (MQ below (cQi post D Y A) args s mc ms A) cd dd 116 [(0, .ref sc), (1, .ref x1), (2, .ref x2), (3, .ref x3), (4, .ref x4), (5, .ref x5), (6, .ref x6), (7, .ref x7), (8, .ref x8), (9, .ref x9), (10, .ref x10), (11, .ref x11), (12, .ref x12), (13, .ref x13), (14, .ref x14), (15, .ref x15), (16, .ref x16), (17, .ref x17), (18, .int x18), (19, .int x19)] [] S) (x1 : Nat) (x2 : Nat) (x3 : Nat) (x4 : Nat) (x5 : Nat) (x6 : Nat) (x7 : Nat) (x8 : Nat) (x9 : Nat) (x10 : Nat) (x11 : Nat) (x12 : Nat) (x13 : Nat) (x14 : Nat) (x15 : Nat) (x16 : Nat) (x17 : Nat) (x19 : Int32) (t0 : Int32) (cd dd : Nat) (S : cS) (h : ks_L_holds_794 post dp mc ms L R116 x1 x2 x3 x4 x5 x6 x7 x8 x9 x10 x11 x12 x13 x14 x15 x16 x17 x19 t0 cd dd S) : cG p l e (cRm 14 mc ms 346) s m args below meth c A D Y 24 (MQ below (cQi post D Y A) args s mc ms A) cd dd 794 [(0, .ref sc), (1, .ref x1), (2, .ref x2), (3, .ref x3), (4, .ref x4), (5, .ref x5), (6, .ref x6), (7, .ref x7), (8, .ref x8), (9, .ref x9), (10, .ref x10), (11, .ref x11), (12, .ref x12), (13, .ref x13), (14, .ref x14), (15, .ref x15), (16, .ref x16), (17, .ref x17), (19, .int x19)] [.int t0] S := by
  unfold ks_L_holds_794 at h
  refine cg_istore C (lv' := [(18, .int t0), (0, .ref sc), (1, .ref x1), (2, .ref x2), (3, .ref x3), (4, .ref x4), (5, .ref x5), (6, .ref x6), (7, .ref x7), (8, .ref x8), (9, .ref x9), (10, .ref x10), (11, .ref x11), (12, .ref x12), (13, .ref x13), (14, .ref x14), (15, .ref x15), (16, .ref x16), (17, .ref x17), (19, .int x19)]) (Nat.le_of_ble_eq_true rfl) rfl dL_holds_794 ?_
  exact cg_sub [1, 2, 3, 4, 5, 6, 7, 8, 9, 10, 11, 12, 13, 14, 15, 16, 17, 18, 0, 19] rfl (tbs_L_holds_796 C hX hbl hbA hL hlt hR116 x1 x2 x3 x4 x5 x6 x7 x8 x9 x10 x11 x12 x13 x14 x15 x16 x17 t0 x19 cd dd S h)
set_option maxRecDepth 20000 in
theorem tbs_L_holds_793 {mc ms : Nat} (C : cC p s m args meth c cL_holds 24 (some .boolean) A D Y tp dp RL) {sc L : Nat} {xs : Nat → Int32} (hX : va_X sc L xs s s.heap) (hbl : sc < s.heap.size) (hbA : ¬ A sc) (hL : L ≤ 260) (hlt : l.stackTraces = false) {post : Int32 → cS → Prop} {R116 : Nat → Nat → Nat → Nat → Nat → Nat → Nat → Nat → Nat → Nat → Nat → Nat → Nat → Nat → Nat → Nat → Nat → Int32 → Int32 → Nat → Nat → cS → Prop} (hR116 : ∀ (x1 : Nat) (x2 : Nat) (x3 : Nat) (x4 : Nat) (x5 : Nat) (x6 : Nat) (x7 : Nat) (x8 : Nat) (x9 : Nat) (x10 : Nat) (x11 : Nat) (x12 : Nat) (x13 : Nat) (x14 : Nat) (x15 : Nat) (x16 : Nat) (x17 : Nat) (x18 : Int32) (x19 : Int32) (cd dd : Nat) (S : cS), R116 x1 x2 x3 x4 x5 x6 x7 x8 x9 x10 x11 x12 x13 x14 x15 x16 x17 x18 x19 cd dd S → cG p l e (cRm 14 mc ms 346) s m args below meth c A D Y 24 (MQ below (cQi post D Y A) args s mc ms A) cd dd 116 [(0, .ref sc), (1, .ref x1), (2, .ref x2), (3, .ref x3), (4, .ref x4), (5, .ref x5), (6, .ref x6), (7, .ref x7), (8, .ref x8), (9, .ref x9), (10, .ref x10), (11, .ref x11), (12, .ref x12), (13, .ref x13), (14, .ref x14), (15, .ref x15), (16, .ref x16), (17, .ref x17), (18, .int x18), (19, .int x19)] [] S) (x1 : Nat) (x2 : Nat) (x3 : Nat) (x4 : Nat) (x5 : Nat) (x6 : Nat) (x7 : Nat) (x8 : Nat) (x9 : Nat) (x10 : Nat) (x11 : Nat) (x12 : Nat) (x13 : Nat) (x14 : Nat) (x15 : Nat) (x16 : Nat) (x17 : Nat) (x19 : Int32) (cd dd : Nat) (S : cS) (h : ks_L_holds_793 post dp mc ms L R116 x1 x2 x3 x4 x5 x6 x7 x8 x9 x10 x11 x12 x13 x14 x15 x16 x17 x19 cd dd S) : cG p l e (cRm 14 mc ms 346) s m args below meth c A D Y 24 (MQ below (cQi post D Y A) args s mc ms A) cd dd 793 [(0, .ref sc), (1, .ref x1), (2, .ref x2), (3, .ref x3), (4, .ref x4), (5, .ref x5), (6, .ref x6), (7, .ref x7), (8, .ref x8), (9, .ref x9), (10, .ref x10), (11, .ref x11), (12, .ref x12), (13, .ref x13), (14, .ref x14), (15, .ref x15), (16, .ref x16), (17, .ref x17), (19, .int x19)] [] S := by
  unfold ks_L_holds_793 at h
  refine cg_iconst C (x := nI 0) rfl dL_holds_793 ?_
  exact cg_sub [0, 1, 2, 3, 4, 5, 6, 7, 8, 9, 10, 11, 12, 13, 14, 15, 16, 17, 18] rfl (tbs_L_holds_794 C hX hbl hbA hL hlt hR116 x1 x2 x3 x4 x5 x6 x7 x8 x9 x10 x11 x12 x13 x14 x15 x16 x17 x19 ((nI 0)) cd dd S h)
set_option maxRecDepth 20000 in
theorem tbs_L_holds_779 {mc ms : Nat} (C : cC p s m args meth c cL_holds 24 (some .boolean) A D Y tp dp RL) {sc L : Nat} {xs : Nat → Int32} (hX : va_X sc L xs s s.heap) (hbl : sc < s.heap.size) (hbA : ¬ A sc) (hL : L ≤ 260) (hlt : l.stackTraces = false) {post : Int32 → cS → Prop} {R116 : Nat → Nat → Nat → Nat → Nat → Nat → Nat → Nat → Nat → Nat → Nat → Nat → Nat → Nat → Nat → Nat → Nat → Int32 → Int32 → Nat → Nat → cS → Prop} (hR116 : ∀ (x1 : Nat) (x2 : Nat) (x3 : Nat) (x4 : Nat) (x5 : Nat) (x6 : Nat) (x7 : Nat) (x8 : Nat) (x9 : Nat) (x10 : Nat) (x11 : Nat) (x12 : Nat) (x13 : Nat) (x14 : Nat) (x15 : Nat) (x16 : Nat) (x17 : Nat) (x18 : Int32) (x19 : Int32) (cd dd : Nat) (S : cS), R116 x1 x2 x3 x4 x5 x6 x7 x8 x9 x10 x11 x12 x13 x14 x15 x16 x17 x18 x19 cd dd S → cG p l e (cRm 14 mc ms 346) s m args below meth c A D Y 24 (MQ below (cQi post D Y A) args s mc ms A) cd dd 116 [(0, .ref sc), (1, .ref x1), (2, .ref x2), (3, .ref x3), (4, .ref x4), (5, .ref x5), (6, .ref x6), (7, .ref x7), (8, .ref x8), (9, .ref x9), (10, .ref x10), (11, .ref x11), (12, .ref x12), (13, .ref x13), (14, .ref x14), (15, .ref x15), (16, .ref x16), (17, .ref x17), (18, .int x18), (19, .int x19)] [] S) (x1 : Nat) (x2 : Nat) (x3 : Nat) (x4 : Nat) (x5 : Nat) (x6 : Nat) (x7 : Nat) (x8 : Nat) (x9 : Nat) (x10 : Nat) (x11 : Nat) (x12 : Nat) (x13 : Nat) (x14 : Nat) (x15 : Nat) (x16 : Nat) (x17 : Nat) (x19 : Int32) (x20 : Int32) (t0 : Nat) (t1 : Nat) (t2 : Nat) (t3 : Nat) (t4 : Nat) (cd dd : Nat) (S : cS) (h : ks_L_holds_779 post dp mc ms L R116 x1 x2 x3 x4 x5 x6 x7 x8 x9 x10 x11 x12 x13 x14 x15 x16 x17 x19 x20 t0 t1 t2 t3 t4 cd dd S) : cG p l e (cRm 14 mc ms 346) s m args below meth c A D Y 24 (MQ below (cQi post D Y A) args s mc ms A) cd dd 779 [(0, .ref sc), (1, .ref x1), (2, .ref x2), (3, .ref x3), (4, .ref x4), (5, .ref x5), (6, .ref x6), (7, .ref x7), (8, .ref x8), (9, .ref x9), (10, .ref x10), (11, .ref x11), (12, .ref x12), (13, .ref x13), (14, .ref x14), (15, .ref x15), (16, .ref x16), (17, .ref x17), (19, .int x19), (20, .int x20)] [.ref t0, .ref t1, .ref t2, .ref t3, .ref t4] S := by
  unfold ks_L_holds_779 at h
  refine cg_iload C 19 rfl dL_holds_779 ?_
  refine cg_iconst C (x := nI 3) rfl dL_holds_781 ?_
  refine cg_idiv C (by decide) dL_holds_782 ?_
  obtain ⟨mc73, ms74, hm_1, hm_2, h⟩ := h
  refine cg_callsi C (t_L_isPlain l mc73 ms74 t4 t3 t2 t1 t0 ((x20 / ((nI 3)))) S dp h) cc_L_308 rfl ⟨by decide, by decide⟩ ⟨hm_1, hm_2⟩ rfl (Nat.le_of_ble_eq_true rfl) dL_holds_783 (fun r_75 S_75 h => ?_)
  refine cg_if_eq C 793 (by decide) dL_holds_786 (fun c_ => ?_) (fun c_ => ?_)
  · have h := h.1 c_
    exact cg_sub [0, 1, 2, 3, 4, 5, 6, 7, 8, 9, 10, 11, 12, 13, 14, 15, 16, 17, 18] rfl (tbs_L_holds_793 C hX hbl hbA hL hlt hR116 x1 x2 x3 x4 x5 x6 x7 x8 x9 x10 x11 x12 x13 x14 x15 x16 x17 x19 (cd + mc73) (dd + ms74) S_75 h)
  · have h := h.2 c_
    refine cg_iconst C (x := nI 1) rfl dL_holds_789 ?_
    refine cg_goto C 794 (by decide) dL_holds_790 ?_
    exact cg_sub [0, 1, 2, 3, 4, 5, 6, 7, 8, 9, 10, 11, 12, 13, 14, 15, 16, 17, 18] rfl (tbs_L_holds_794 C hX hbl hbA hL hlt hR116 x1 x2 x3 x4 x5 x6 x7 x8 x9 x10 x11 x12 x13 x14 x15 x16 x17 x19 ((nI 1)) (cd + mc73) (dd + ms74) S_75 h)
set_option maxRecDepth 20000 in
theorem tbs_L_holds_745 {mc ms : Nat} (C : cC p s m args meth c cL_holds 24 (some .boolean) A D Y tp dp RL) {sc L : Nat} {xs : Nat → Int32} (hX : va_X sc L xs s s.heap) (hbl : sc < s.heap.size) (hbA : ¬ A sc) (hL : L ≤ 260) (hlt : l.stackTraces = false) {post : Int32 → cS → Prop} {R116 : Nat → Nat → Nat → Nat → Nat → Nat → Nat → Nat → Nat → Nat → Nat → Nat → Nat → Nat → Nat → Nat → Nat → Int32 → Int32 → Nat → Nat → cS → Prop} (hR116 : ∀ (x1 : Nat) (x2 : Nat) (x3 : Nat) (x4 : Nat) (x5 : Nat) (x6 : Nat) (x7 : Nat) (x8 : Nat) (x9 : Nat) (x10 : Nat) (x11 : Nat) (x12 : Nat) (x13 : Nat) (x14 : Nat) (x15 : Nat) (x16 : Nat) (x17 : Nat) (x18 : Int32) (x19 : Int32) (cd dd : Nat) (S : cS), R116 x1 x2 x3 x4 x5 x6 x7 x8 x9 x10 x11 x12 x13 x14 x15 x16 x17 x18 x19 cd dd S → cG p l e (cRm 14 mc ms 346) s m args below meth c A D Y 24 (MQ below (cQi post D Y A) args s mc ms A) cd dd 116 [(0, .ref sc), (1, .ref x1), (2, .ref x2), (3, .ref x3), (4, .ref x4), (5, .ref x5), (6, .ref x6), (7, .ref x7), (8, .ref x8), (9, .ref x9), (10, .ref x10), (11, .ref x11), (12, .ref x12), (13, .ref x13), (14, .ref x14), (15, .ref x15), (16, .ref x16), (17, .ref x17), (18, .int x18), (19, .int x19)] [] S) (x1 : Nat) (x2 : Nat) (x3 : Nat) (x4 : Nat) (x5 : Nat) (x6 : Nat) (x7 : Nat) (x8 : Nat) (x9 : Nat) (x10 : Nat) (x11 : Nat) (x12 : Nat) (x13 : Nat) (x14 : Nat) (x15 : Nat) (x16 : Nat) (x17 : Nat) (x19 : Int32) (x20 : Int32) (t0 : Nat) (t1 : Nat) (t2 : Nat) (t3 : Nat) (t4 : Nat) (cd dd : Nat) (S : cS) (h : ks_L_holds_745 post dp mc ms L R116 x1 x2 x3 x4 x5 x6 x7 x8 x9 x10 x11 x12 x13 x14 x15 x16 x17 x19 x20 t0 t1 t2 t3 t4 cd dd S) : cG p l e (cRm 14 mc ms 346) s m args below meth c A D Y 24 (MQ below (cQi post D Y A) args s mc ms A) cd dd 745 [(0, .ref sc), (1, .ref x1), (2, .ref x2), (3, .ref x3), (4, .ref x4), (5, .ref x5), (6, .ref x6), (7, .ref x7), (8, .ref x8), (9, .ref x9), (10, .ref x10), (11, .ref x11), (12, .ref x12), (13, .ref x13), (14, .ref x14), (15, .ref x15), (16, .ref x16), (17, .ref x17), (19, .int x19), (20, .int x20)] [.ref t0, .ref t1, .ref t2, .ref t3, .ref t4] S := by
  unfold ks_L_holds_745 at h
  refine cg_aload C 13 rfl dL_holds_745 ?_
  refine cg_aload C 14 rfl dL_holds_747 ?_
  refine cg_aload C 17 rfl dL_holds_749 ?_
  refine cg_iload C 19 rfl dL_holds_751 ?_
  obtain ⟨mc70, ms71, hm_1, hm_2, h⟩ := h
  refine cg_callsi C (t_L_isFound l mc70 ms71 t4 t3 t2 t1 t0 x13 x14 x17 x20 S dp h) cc_L_304 rfl ⟨by decide, by decide⟩ ⟨hm_1, hm_2⟩ rfl (Nat.le_of_ble_eq_true rfl) dL_holds_753 (fun r_72 S_72 h => ?_)
  refine cg_if_eq C 793 (by decide) dL_holds_756 (fun c_ => ?_) (fun c_ => ?_)
  · have h := h.1 c_
    exact cg_sub [0, 1, 2, 3, 4, 5, 6, 7, 8, 9, 10, 11, 12, 13, 14, 15, 16, 17, 18] rfl (tbs_L_holds_793 C hX hbl hbA hL hlt hR116 x1 x2 x3 x4 x5 x6 x7 x8 x9 x10 x11 x12 x13 x14 x15 x16 x17 x19 (cd + mc70) (dd + ms71) S_72 h)
  · have h := h.2 c_
    refine cg_aload_n C (i := 1) rfl 1 rfl dL_holds_759 ?_
    refine cg_aload_n C (i := 2) rfl 2 rfl dL_holds_760 ?_
    refine cg_aload C 4 rfl dL_holds_761 ?_
    refine cg_aload C 5 rfl dL_holds_763 ?_
    refine cg_aload C 11 rfl dL_holds_765 ?_
    refine cg_iconst C (x := nI 0) rfl dL_holds_767 ?_
    obtain ⟨hc_768, h⟩ := h
    refine cg_ialoadR C hc_768 dL_holds_768 ?_
    refine cg_if_le C 777 (by decide) dL_holds_769 (fun c_ => ?_) (fun c_ => ?_)
    · have h := h.1 c_
      refine cg_aload C 12 rfl dL_holds_777 ?_
      exact cg_sub [0, 1, 2, 3, 4, 5, 6, 7, 8, 9, 10, 11, 12, 13, 14, 15, 16, 17, 18, 19] rfl (tbs_L_holds_779 C hX hbl hbA hL hlt hR116 x1 x2 x3 x4 x5 x6 x7 x8 x9 x10 x11 x12 x13 x14 x15 x16 x17 x19 x20 x12 x5 x4 x2 x1 (cd + mc70) (dd + ms71) S_72 h)
    · have h := h.2 c_
      refine cg_aload C 11 rfl dL_holds_772 ?_
      refine cg_goto C 779 (by decide) dL_holds_774 ?_
      exact cg_sub [0, 1, 2, 3, 4, 5, 6, 7, 8, 9, 10, 11, 12, 13, 14, 15, 16, 17, 18, 19] rfl (tbs_L_holds_779 C hX hbl hbA hL hlt hR116 x1 x2 x3 x4 x5 x6 x7 x8 x9 x10 x11 x12 x13 x14 x15 x16 x17 x19 x20 x11 x5 x4 x2 x1 (cd + mc70) (dd + ms71) S_72 h)
set_option maxRecDepth 20000 in
theorem tbs_L_holds_725 {mc ms : Nat} (C : cC p s m args meth c cL_holds 24 (some .boolean) A D Y tp dp RL) {sc L : Nat} {xs : Nat → Int32} (hX : va_X sc L xs s s.heap) (hbl : sc < s.heap.size) (hbA : ¬ A sc) (hL : L ≤ 260) (hlt : l.stackTraces = false) {post : Int32 → cS → Prop} {R116 : Nat → Nat → Nat → Nat → Nat → Nat → Nat → Nat → Nat → Nat → Nat → Nat → Nat → Nat → Nat → Nat → Nat → Int32 → Int32 → Nat → Nat → cS → Prop} (hR116 : ∀ (x1 : Nat) (x2 : Nat) (x3 : Nat) (x4 : Nat) (x5 : Nat) (x6 : Nat) (x7 : Nat) (x8 : Nat) (x9 : Nat) (x10 : Nat) (x11 : Nat) (x12 : Nat) (x13 : Nat) (x14 : Nat) (x15 : Nat) (x16 : Nat) (x17 : Nat) (x18 : Int32) (x19 : Int32) (cd dd : Nat) (S : cS), R116 x1 x2 x3 x4 x5 x6 x7 x8 x9 x10 x11 x12 x13 x14 x15 x16 x17 x18 x19 cd dd S → cG p l e (cRm 14 mc ms 346) s m args below meth c A D Y 24 (MQ below (cQi post D Y A) args s mc ms A) cd dd 116 [(0, .ref sc), (1, .ref x1), (2, .ref x2), (3, .ref x3), (4, .ref x4), (5, .ref x5), (6, .ref x6), (7, .ref x7), (8, .ref x8), (9, .ref x9), (10, .ref x10), (11, .ref x11), (12, .ref x12), (13, .ref x13), (14, .ref x14), (15, .ref x15), (16, .ref x16), (17, .ref x17), (18, .int x18), (19, .int x19)] [] S) (x1 : Nat) (x2 : Nat) (x3 : Nat) (x4 : Nat) (x5 : Nat) (x6 : Nat) (x7 : Nat) (x8 : Nat) (x9 : Nat) (x10 : Nat) (x11 : Nat) (x12 : Nat) (x13 : Nat) (x14 : Nat) (x15 : Nat) (x16 : Nat) (x17 : Nat) (x19 : Int32) (x20 : Int32) (cd dd : Nat) (S : cS) (h : ks_L_holds_725 post dp mc ms L R116 x1 x2 x3 x4 x5 x6 x7 x8 x9 x10 x11 x12 x13 x14 x15 x16 x17 x19 x20 cd dd S) : cG p l e (cRm 14 mc ms 346) s m args below meth c A D Y 24 (MQ below (cQi post D Y A) args s mc ms A) cd dd 725 [(0, .ref sc), (1, .ref x1), (2, .ref x2), (3, .ref x3), (4, .ref x4), (5, .ref x5), (6, .ref x6), (7, .ref x7), (8, .ref x8), (9, .ref x9), (10, .ref x10), (11, .ref x11), (12, .ref x12), (13, .ref x13), (14, .ref x14), (15, .ref x15), (16, .ref x16), (17, .ref x17), (19, .int x19), (20, .int x20)] [] S := by
  unfold ks_L_holds_725 at h
  refine cg_aload_n C (i := 1) rfl 1 rfl dL_holds_725 ?_
  refine cg_aload_n C (i := 2) rfl 2 rfl dL_holds_726 ?_
  refine cg_aload C 4 rfl dL_holds_727 ?_
  refine cg_aload C 5 rfl dL_holds_729 ?_
  refine cg_aload C 11 rfl dL_holds_731 ?_
  refine cg_iconst C (x := nI 0) rfl dL_holds_733 ?_
  obtain ⟨hc_734, h⟩ := h
  refine cg_ialoadR C hc_734 dL_holds_734 ?_
  refine cg_if_le C 743 (by decide) dL_holds_735 (fun c_ => ?_) (fun c_ => ?_)
  · have h := h.1 c_
    refine cg_aload C 12 rfl dL_holds_743 ?_
    exact cg_sub [0, 1, 2, 3, 4, 5, 6, 7, 8, 9, 10, 11, 12, 13, 14, 15, 16, 17, 18, 19] rfl (tbs_L_holds_745 C hX hbl hbA hL hlt hR116 x1 x2 x3 x4 x5 x6 x7 x8 x9 x10 x11 x12 x13 x14 x15 x16 x17 x19 x20 x12 x5 x4 x2 x1 cd dd S h)
  · have h := h.2 c_
    refine cg_aload C 11 rfl dL_holds_738 ?_
    refine cg_goto C 745 (by decide) dL_holds_740 ?_
    exact cg_sub [0, 1, 2, 3, 4, 5, 6, 7, 8, 9, 10, 11, 12, 13, 14, 15, 16, 17, 18, 19] rfl (tbs_L_holds_745 C hX hbl hbA hL hlt hR116 x1 x2 x3 x4 x5 x6 x7 x8 x9 x10 x11 x12 x13 x14 x15 x16 x17 x19 x20 x11 x5 x4 x2 x1 cd dd S h)
set_option maxRecDepth 20000 in
theorem tbs_L_holds_711 {mc ms : Nat} (C : cC p s m args meth c cL_holds 24 (some .boolean) A D Y tp dp RL) {sc L : Nat} {xs : Nat → Int32} (hX : va_X sc L xs s s.heap) (hbl : sc < s.heap.size) (hbA : ¬ A sc) (hL : L ≤ 260) (hlt : l.stackTraces = false) {post : Int32 → cS → Prop} {R116 : Nat → Nat → Nat → Nat → Nat → Nat → Nat → Nat → Nat → Nat → Nat → Nat → Nat → Nat → Nat → Nat → Nat → Int32 → Int32 → Nat → Nat → cS → Prop} (hR116 : ∀ (x1 : Nat) (x2 : Nat) (x3 : Nat) (x4 : Nat) (x5 : Nat) (x6 : Nat) (x7 : Nat) (x8 : Nat) (x9 : Nat) (x10 : Nat) (x11 : Nat) (x12 : Nat) (x13 : Nat) (x14 : Nat) (x15 : Nat) (x16 : Nat) (x17 : Nat) (x18 : Int32) (x19 : Int32) (cd dd : Nat) (S : cS), R116 x1 x2 x3 x4 x5 x6 x7 x8 x9 x10 x11 x12 x13 x14 x15 x16 x17 x18 x19 cd dd S → cG p l e (cRm 14 mc ms 346) s m args below meth c A D Y 24 (MQ below (cQi post D Y A) args s mc ms A) cd dd 116 [(0, .ref sc), (1, .ref x1), (2, .ref x2), (3, .ref x3), (4, .ref x4), (5, .ref x5), (6, .ref x6), (7, .ref x7), (8, .ref x8), (9, .ref x9), (10, .ref x10), (11, .ref x11), (12, .ref x12), (13, .ref x13), (14, .ref x14), (15, .ref x15), (16, .ref x16), (17, .ref x17), (18, .int x18), (19, .int x19)] [] S) (x1 : Nat) (x2 : Nat) (x3 : Nat) (x4 : Nat) (x5 : Nat) (x6 : Nat) (x7 : Nat) (x8 : Nat) (x9 : Nat) (x10 : Nat) (x11 : Nat) (x12 : Nat) (x13 : Nat) (x14 : Nat) (x15 : Nat) (x16 : Nat) (x17 : Nat) (x18 : Int32) (x19 : Int32) (x20 : Int32) (cd dd : Nat) (S : cS) (h : ks_L_holds_711 post dp mc ms L R116 x1 x2 x3 x4 x5 x6 x7 x8 x9 x10 x11 x12 x13 x14 x15 x16 x17 x18 x19 x20 cd dd S) : cG p l e (cRm 14 mc ms 346) s m args below meth c A D Y 24 (MQ below (cQi post D Y A) args s mc ms A) cd dd 711 [(0, .ref sc), (1, .ref x1), (2, .ref x2), (3, .ref x3), (4, .ref x4), (5, .ref x5), (6, .ref x6), (7, .ref x7), (8, .ref x8), (9, .ref x9), (10, .ref x10), (11, .ref x11), (12, .ref x12), (13, .ref x13), (14, .ref x14), (15, .ref x15), (16, .ref x16), (17, .ref x17), (18, .int x18), (19, .int x19), (20, .int x20)] [] S := by
  unfold ks_L_holds_711 at h
  refine cg_aload C 11 rfl dL_holds_711 ?_
  refine cg_iconst C (x := nI 0) rfl dL_holds_713 ?_
  obtain ⟨hc_714, h⟩ := h
  refine cg_ialoadR C hc_714 dL_holds_714 ?_
  refine cg_if_gt C 725 (by decide) dL_holds_715 (fun c_ => ?_) (fun c_ => ?_)
  · have h := h.1 c_
    exact cg_sub [0, 1, 2, 3, 4, 5, 6, 7, 8, 9, 10, 11, 12, 13, 14, 15, 16, 17, 19, 20] rfl (tbs_L_holds_725 C hX hbl hbA hL hlt hR116 x1 x2 x3 x4 x5 x6 x7 x8 x9 x10 x11 x12 x13 x14 x15 x16 x17 x19 x20 cd dd S h)
  · have h := h.2 c_
    refine cg_aload C 12 rfl dL_holds_718 ?_
    refine cg_iconst C (x := nI 0) rfl dL_holds_720 ?_
    obtain ⟨hc_721, h⟩ := h
    refine cg_ialoadR C hc_721 dL_holds_721 ?_
    refine cg_if_le C 796 (by decide) dL_holds_722 (fun c_ => ?_) (fun c_ => ?_)
    · have h := h.1 c_
      exact cg_sub [0, 1, 2, 3, 4, 5, 6, 7, 8, 9, 10, 11, 12, 13, 14, 15, 16, 17, 18, 19] rfl (tbs_L_holds_796 C hX hbl hbA hL hlt hR116 x1 x2 x3 x4 x5 x6 x7 x8 x9 x10 x11 x12 x13 x14 x15 x16 x17 x18 x19 cd dd S h)
    · have h := h.2 c_
      exact cg_sub [0, 1, 2, 3, 4, 5, 6, 7, 8, 9, 10, 11, 12, 13, 14, 15, 16, 17, 19, 20] rfl (tbs_L_holds_725 C hX hbl hbA hL hlt hR116 x1 x2 x3 x4 x5 x6 x7 x8 x9 x10 x11 x12 x13 x14 x15 x16 x17 x19 x20 cd dd S h)
set_option maxRecDepth 20000 in
theorem tbs_L_holds_706 {mc ms : Nat} (C : cC p s m args meth c cL_holds 24 (some .boolean) A D Y tp dp RL) {sc L : Nat} {xs : Nat → Int32} (hX : va_X sc L xs s s.heap) (hbl : sc < s.heap.size) (hbA : ¬ A sc) (hL : L ≤ 260) (hlt : l.stackTraces = false) {post : Int32 → cS → Prop} {R116 : Nat → Nat → Nat → Nat → Nat → Nat → Nat → Nat → Nat → Nat → Nat → Nat → Nat → Nat → Nat → Nat → Nat → Int32 → Int32 → Nat → Nat → cS → Prop} (hR116 : ∀ (x1 : Nat) (x2 : Nat) (x3 : Nat) (x4 : Nat) (x5 : Nat) (x6 : Nat) (x7 : Nat) (x8 : Nat) (x9 : Nat) (x10 : Nat) (x11 : Nat) (x12 : Nat) (x13 : Nat) (x14 : Nat) (x15 : Nat) (x16 : Nat) (x17 : Nat) (x18 : Int32) (x19 : Int32) (cd dd : Nat) (S : cS), R116 x1 x2 x3 x4 x5 x6 x7 x8 x9 x10 x11 x12 x13 x14 x15 x16 x17 x18 x19 cd dd S → cG p l e (cRm 14 mc ms 346) s m args below meth c A D Y 24 (MQ below (cQi post D Y A) args s mc ms A) cd dd 116 [(0, .ref sc), (1, .ref x1), (2, .ref x2), (3, .ref x3), (4, .ref x4), (5, .ref x5), (6, .ref x6), (7, .ref x7), (8, .ref x8), (9, .ref x9), (10, .ref x10), (11, .ref x11), (12, .ref x12), (13, .ref x13), (14, .ref x14), (15, .ref x15), (16, .ref x16), (17, .ref x17), (18, .int x18), (19, .int x19)] [] S) (x1 : Nat) (x2 : Nat) (x3 : Nat) (x4 : Nat) (x5 : Nat) (x6 : Nat) (x7 : Nat) (x8 : Nat) (x9 : Nat) (x10 : Nat) (x11 : Nat) (x12 : Nat) (x13 : Nat) (x14 : Nat) (x15 : Nat) (x16 : Nat) (x17 : Nat) (x19 : Int32) (t0 : Int32) (cd dd : Nat) (S : cS) (h : ks_L_holds_706 post dp mc ms L R116 x1 x2 x3 x4 x5 x6 x7 x8 x9 x10 x11 x12 x13 x14 x15 x16 x17 x19 t0 cd dd S) : cG p l e (cRm 14 mc ms 346) s m args below meth c A D Y 24 (MQ below (cQi post D Y A) args s mc ms A) cd dd 706 [(0, .ref sc), (1, .ref x1), (2, .ref x2), (3, .ref x3), (4, .ref x4), (5, .ref x5), (6, .ref x6), (7, .ref x7), (8, .ref x8), (9, .ref x9), (10, .ref x10), (11, .ref x11), (12, .ref x12), (13, .ref x13), (14, .ref x14), (15, .ref x15), (16, .ref x16), (17, .ref x17), (19, .int x19)] [.int t0] S := by
  unfold ks_L_holds_706 at h
  refine cg_istore C (lv' := [(18, .int t0), (0, .ref sc), (1, .ref x1), (2, .ref x2), (3, .ref x3), (4, .ref x4), (5, .ref x5), (6, .ref x6), (7, .ref x7), (8, .ref x8), (9, .ref x9), (10, .ref x10), (11, .ref x11), (12, .ref x12), (13, .ref x13), (14, .ref x14), (15, .ref x15), (16, .ref x16), (17, .ref x17), (19, .int x19)]) (Nat.le_of_ble_eq_true rfl) rfl dL_holds_706 ?_
  refine cg_goto C 796 (by decide) dL_holds_708 ?_
  exact cg_sub [1, 2, 3, 4, 5, 6, 7, 8, 9, 10, 11, 12, 13, 14, 15, 16, 17, 18, 0, 19] rfl (tbs_L_holds_796 C hX hbl hbA hL hlt hR116 x1 x2 x3 x4 x5 x6 x7 x8 x9 x10 x11 x12 x13 x14 x15 x16 x17 t0 x19 cd dd S h)
set_option maxRecDepth 20000 in
theorem tbs_L_holds_634 {mc ms : Nat} (C : cC p s m args meth c cL_holds 24 (some .boolean) A D Y tp dp RL) {sc L : Nat} {xs : Nat → Int32} (hX : va_X sc L xs s s.heap) (hbl : sc < s.heap.size) (hbA : ¬ A sc) (hL : L ≤ 260) (hlt : l.stackTraces = false) {post : Int32 → cS → Prop} {R116 : Nat → Nat → Nat → Nat → Nat → Nat → Nat → Nat → Nat → Nat → Nat → Nat → Nat → Nat → Nat → Nat → Nat → Int32 → Int32 → Nat → Nat → cS → Prop} (hR116 : ∀ (x1 : Nat) (x2 : Nat) (x3 : Nat) (x4 : Nat) (x5 : Nat) (x6 : Nat) (x7 : Nat) (x8 : Nat) (x9 : Nat) (x10 : Nat) (x11 : Nat) (x12 : Nat) (x13 : Nat) (x14 : Nat) (x15 : Nat) (x16 : Nat) (x17 : Nat) (x18 : Int32) (x19 : Int32) (cd dd : Nat) (S : cS), R116 x1 x2 x3 x4 x5 x6 x7 x8 x9 x10 x11 x12 x13 x14 x15 x16 x17 x18 x19 cd dd S → cG p l e (cRm 14 mc ms 346) s m args below meth c A D Y 24 (MQ below (cQi post D Y A) args s mc ms A) cd dd 116 [(0, .ref sc), (1, .ref x1), (2, .ref x2), (3, .ref x3), (4, .ref x4), (5, .ref x5), (6, .ref x6), (7, .ref x7), (8, .ref x8), (9, .ref x9), (10, .ref x10), (11, .ref x11), (12, .ref x12), (13, .ref x13), (14, .ref x14), (15, .ref x15), (16, .ref x16), (17, .ref x17), (18, .int x18), (19, .int x19)] [] S) (x1 : Nat) (x2 : Nat) (x3 : Nat) (x4 : Nat) (x5 : Nat) (x6 : Nat) (x7 : Nat) (x8 : Nat) (x9 : Nat) (x10 : Nat) (x11 : Nat) (x12 : Nat) (x13 : Nat) (x14 : Nat) (x15 : Nat) (x16 : Nat) (x17 : Nat) (x19 : Int32) (x20 : Int32) (t0 : Nat) (t1 : Nat) (t2 : Nat) (t3 : Nat) (t4 : Nat) (cd dd : Nat) (S : cS) (h : ks_L_holds_634 post dp mc ms L R116 x1 x2 x3 x4 x5 x6 x7 x8 x9 x10 x11 x12 x13 x14 x15 x16 x17 x19 x20 t0 t1 t2 t3 t4 cd dd S) : cG p l e (cRm 14 mc ms 346) s m args below meth c A D Y 24 (MQ below (cQi post D Y A) args s mc ms A) cd dd 634 [(0, .ref sc), (1, .ref x1), (2, .ref x2), (3, .ref x3), (4, .ref x4), (5, .ref x5), (6, .ref x6), (7, .ref x7), (8, .ref x8), (9, .ref x9), (10, .ref x10), (11, .ref x11), (12, .ref x12), (13, .ref x13), (14, .ref x14), (15, .ref x15), (16, .ref x16), (17, .ref x17), (19, .int x19), (20, .int x20)] [.ref t0, .ref t1, .ref t2, .ref t3, .ref t4] S := by
  unfold ks_L_holds_634 at h
  refine cg_aload C 17 rfl dL_holds_634 ?_
  refine cg_iload C 19 rfl dL_holds_636 ?_
  refine cg_iconst C (x := nI 2) rfl dL_holds_638 ?_
  refine cg_idiv C (by decide) dL_holds_639 ?_
  obtain ⟨mc82, ms83, hm_1, hm_2, h⟩ := h
  refine cg_callsi C (t_L_looks l hlt mc82 ms83 t4 t3 t2 t1 t0 x17 ((x20 / ((nI 2)))) S dp h) cc_L_297 rfl ⟨by decide, by decide⟩ ⟨hm_1, hm_2⟩ rfl (Nat.le_of_ble_eq_true rfl) dL_holds_640 (fun r_84 S_84 h => ?_)
  refine cg_istore C (lv' := [(18, .int r_84), (0, .ref sc), (1, .ref x1), (2, .ref x2), (3, .ref x3), (4, .ref x4), (5, .ref x5), (6, .ref x6), (7, .ref x7), (8, .ref x8), (9, .ref x9), (10, .ref x10), (11, .ref x11), (12, .ref x12), (13, .ref x13), (14, .ref x14), (15, .ref x15), (16, .ref x16), (17, .ref x17), (19, .int x19), (20, .int x20)]) (Nat.le_of_ble_eq_true rfl) rfl dL_holds_643 ?_
  refine cg_goto C 796 (by decide) dL_holds_645 ?_
  exact cg_sub [1, 2, 3, 4, 5, 6, 7, 8, 9, 10, 11, 12, 13, 14, 15, 16, 17, 18, 0, 19] rfl (tbs_L_holds_796 C hX hbl hbA hL hlt hR116 x1 x2 x3 x4 x5 x6 x7 x8 x9 x10 x11 x12 x13 x14 x15 x16 x17 r_84 x19 (cd + mc82) (dd + ms83) S_84 h)
set_option maxRecDepth 20000 in
theorem tbs_L_holds_571 {mc ms : Nat} (C : cC p s m args meth c cL_holds 24 (some .boolean) A D Y tp dp RL) {sc L : Nat} {xs : Nat → Int32} (hX : va_X sc L xs s s.heap) (hbl : sc < s.heap.size) (hbA : ¬ A sc) (hL : L ≤ 260) (hlt : l.stackTraces = false) {post : Int32 → cS → Prop} {R116 : Nat → Nat → Nat → Nat → Nat → Nat → Nat → Nat → Nat → Nat → Nat → Nat → Nat → Nat → Nat → Nat → Nat → Int32 → Int32 → Nat → Nat → cS → Prop} (hR116 : ∀ (x1 : Nat) (x2 : Nat) (x3 : Nat) (x4 : Nat) (x5 : Nat) (x6 : Nat) (x7 : Nat) (x8 : Nat) (x9 : Nat) (x10 : Nat) (x11 : Nat) (x12 : Nat) (x13 : Nat) (x14 : Nat) (x15 : Nat) (x16 : Nat) (x17 : Nat) (x18 : Int32) (x19 : Int32) (cd dd : Nat) (S : cS), R116 x1 x2 x3 x4 x5 x6 x7 x8 x9 x10 x11 x12 x13 x14 x15 x16 x17 x18 x19 cd dd S → cG p l e (cRm 14 mc ms 346) s m args below meth c A D Y 24 (MQ below (cQi post D Y A) args s mc ms A) cd dd 116 [(0, .ref sc), (1, .ref x1), (2, .ref x2), (3, .ref x3), (4, .ref x4), (5, .ref x5), (6, .ref x6), (7, .ref x7), (8, .ref x8), (9, .ref x9), (10, .ref x10), (11, .ref x11), (12, .ref x12), (13, .ref x13), (14, .ref x14), (15, .ref x15), (16, .ref x16), (17, .ref x17), (18, .int x18), (19, .int x19)] [] S) (x1 : Nat) (x2 : Nat) (x3 : Nat) (x4 : Nat) (x5 : Nat) (x6 : Nat) (x7 : Nat) (x8 : Nat) (x9 : Nat) (x10 : Nat) (x11 : Nat) (x12 : Nat) (x13 : Nat) (x14 : Nat) (x15 : Nat) (x16 : Nat) (x17 : Nat) (x18 : Int32) (x19 : Int32) (x20 : Int32) (x21 : Int32) (cd dd : Nat) (S : cS) (h : ks_L_holds_571 post dp mc ms L R116 x1 x2 x3 x4 x5 x6 x7 x8 x9 x10 x11 x12 x13 x14 x15 x16 x17 x18 x19 x20 x21 cd dd S) : cG p l e (cRm 14 mc ms 346) s m args below meth c A D Y 24 (MQ below (cQi post D Y A) args s mc ms A) cd dd 571 [(0, .ref sc), (1, .ref x1), (2, .ref x2), (3, .ref x3), (4, .ref x4), (5, .ref x5), (6, .ref x6), (7, .ref x7), (8, .ref x8), (9, .ref x9), (10, .ref x10), (11, .ref x11), (12, .ref x12), (13, .ref x13), (14, .ref x14), (15, .ref x15), (16, .ref x16), (17, .ref x17), (18, .int x18), (19, .int x19), (20, .int x20), (21, .int x21)] [] S := by
  unfold ks_L_holds_571 at h
  refine cg_iload C 21 rfl dL_holds_571 ?_
  refine cg_bipush C (x := nI 26) rfl dL_holds_573 ?_
  refine cg_icmp_eq C 587 (by decide) dL_holds_575 (fun c_ => ?_) (fun c_ => ?_)
  · have h := h.1 c_
    exact cg_sub [0, 1, 2, 3, 4, 5, 6, 7, 8, 9, 10, 11, 12, 13, 14, 15, 16, 17, 19] rfl (tbs_L_holds_587 C hX hbl hbA hL hlt hR116 x1 x2 x3 x4 x5 x6 x7 x8 x9 x10 x11 x12 x13 x14 x15 x16 x17 x19 cd dd S h)
  · have h := h.2 c_
    refine cg_aload C 17 rfl dL_holds_578 ?_
    refine cg_bipush C (x := nI 6) rfl dL_holds_580 ?_
    obtain ⟨hc_582, h⟩ := h
    refine cg_ialoadR C hc_582 dL_holds_582 ?_
    refine cg_iconst C (x := nI 1) rfl dL_holds_583 ?_
    refine cg_icmp_ne C 606 (by decide) dL_holds_584 (fun c_ => ?_) (fun c_ => ?_)
    · have h := h.1 c_
      refine cg_iload C 21 rfl dL_holds_606 ?_
      refine cg_bipush C (x := nI 29) rfl dL_holds_608 ?_
      refine cg_icmp_ge C 648 (by decide) dL_holds_610 (fun c_ => ?_) (fun c_ => ?_)
      · have h := h.1 c_
        refine cg_iload C 21 rfl dL_holds_648 ?_
        refine cg_bipush C (x := nI 29) rfl dL_holds_650 ?_
        refine cg_icmp_ne C 711 (by decide) dL_holds_652 (fun c_ => ?_) (fun c_ => ?_)
        · have h := h.1 c_
          exact cg_sub [0, 1, 2, 3, 4, 5, 6, 7, 8, 9, 10, 11, 12, 13, 14, 15, 16, 17, 18, 19, 20] rfl (tbs_L_holds_711 C hX hbl hbA hL hlt hR116 x1 x2 x3 x4 x5 x6 x7 x8 x9 x10 x11 x12 x13 x14 x15 x16 x17 x18 x19 x20 cd dd S h)
        · have h := h.2 c_
          refine cg_aload C 11 rfl dL_holds_655 ?_
          refine cg_iconst C (x := nI 0) rfl dL_holds_657 ?_
          obtain ⟨hc_658, h⟩ := h
          refine cg_ialoadR C hc_658 dL_holds_658 ?_
          refine cg_if_le C 711 (by decide) dL_holds_659 (fun c_ => ?_) (fun c_ => ?_)
          · have h := h.1 c_
            exact cg_sub [0, 1, 2, 3, 4, 5, 6, 7, 8, 9, 10, 11, 12, 13, 14, 15, 16, 17, 18, 19, 20] rfl (tbs_L_holds_711 C hX hbl hbA hL hlt hR116 x1 x2 x3 x4 x5 x6 x7 x8 x9 x10 x11 x12 x13 x14 x15 x16 x17 x18 x19 x20 cd dd S h)
          · have h := h.2 c_
            refine cg_aload C 11 rfl dL_holds_662 ?_
            refine cg_iconst C (x := nI 0) rfl dL_holds_664 ?_
            obtain ⟨hc_665, h⟩ := h
            refine cg_ialoadR C hc_665 dL_holds_665 ?_
            refine cg_iconst C (x := nI 1) rfl dL_holds_666 ?_
            refine cg_isub C dL_holds_667 ?_
            refine cg_nmI (fun x23_76 e_x23_76 => ?_)
            have h := h x23_76 e_x23_76
            refine cg_istore C (lv' := [(23, .int x23_76), (0, .ref sc), (1, .ref x1), (2, .ref x2), (3, .ref x3), (4, .ref x4), (5, .ref x5), (6, .ref x6), (7, .ref x7), (8, .ref x8), (9, .ref x9), (10, .ref x10), (11, .ref x11), (12, .ref x12), (13, .ref x13), (14, .ref x14), (15, .ref x15), (16, .ref x16), (17, .ref x17), (18, .int x18), (19, .int x19), (20, .int x20), (21, .int x21)]) (Nat.le_of_ble_eq_true rfl) rfl dL_holds_668 ?_
            refine cg_aload C 12 rfl dL_holds_670 ?_
            refine cg_iconst C (x := nI 0) rfl dL_holds_672 ?_
            refine cg_iconst C (x := nI 0) rfl dL_holds_673 ?_
            obtain ⟨hc_674, h⟩ := h
            refine cg_iastoreR C hc_674 dL_holds_674 ?_
            refine cg_nm (fun S77 e_S77 => ?_)
            have h := h S77 e_S77
            refine cg_aload_n C (i := 1) rfl 2 rfl dL_holds_675 ?_
            refine cg_iload C 0 rfl dL_holds_676 ?_
            obtain ⟨hc_678, h⟩ := h
            obtain ⟨mc78, ms79, hm_1, hm_2, h⟩ := h
            refine cg_calli C (t_X11_shut l mc78 ms79 x1 x23_76 S77 dp h) cc_L_301 hc_678.1 hc_678.2 (by decide) rfl rfl ⟨by decide, by decide⟩ ⟨hm_1, hm_2⟩ rfl (Nat.le_of_ble_eq_true rfl) dL_holds_678 (fun r_80 S_80 h => ?_)
            refine cg_aload C 6 rfl dL_holds_681 ?_
            refine cg_aload C 9 rfl dL_holds_683 ?_
            refine cg_aload C 10 rfl dL_holds_685 ?_
            refine cg_aload C 11 rfl dL_holds_687 ?_
            refine cg_aload C 12 rfl dL_holds_689 ?_
            refine cg_aload C 13 rfl dL_holds_691 ?_
            refine cg_aload C 18 rfl dL_holds_693 ?_
            obtain ⟨hb_695, h⟩ := h
            refine cg_callsi C (t_L_files l x5 x8 x9 x10 x11 x12 x17 S_80 dp h) cc_L_212 rfl ⟨by decide, by decide⟩ hb_695 rfl (Nat.le_of_ble_eq_true rfl) dL_holds_695 (fun r_81 S_81 h => ?_)
            simp only [Nat.add_zero]
            refine cg_icmp_ne C 705 (by decide) dL_holds_698 (fun c_ => ?_) (fun c_ => ?_)
            · have h := h.1 c_
              refine cg_iconst C (x := nI 0) rfl dL_holds_705 ?_
              exact cg_sub [1, 2, 3, 4, 5, 6, 7, 8, 9, 10, 11, 12, 13, 14, 15, 16, 17, 18, 20] rfl (tbs_L_holds_706 C hX hbl hbA hL hlt hR116 x1 x2 x3 x4 x5 x6 x7 x8 x9 x10 x11 x12 x13 x14 x15 x16 x17 x19 ((nI 0)) (cd + mc78) (dd + ms79) S_81 h)
            · have h := h.2 c_
              refine cg_iconst C (x := nI 1) rfl dL_holds_701 ?_
              refine cg_goto C 706 (by decide) dL_holds_702 ?_
              exact cg_sub [1, 2, 3, 4, 5, 6, 7, 8, 9, 10, 11, 12, 13, 14, 15, 16, 17, 18, 20] rfl (tbs_L_holds_706 C hX hbl hbA hL hlt hR116 x1 x2 x3 x4 x5 x6 x7 x8 x9 x10 x11 x12 x13 x14 x15 x16 x17 x19 ((nI 1)) (cd + mc78) (dd + ms79) S_81 h)
      · have h := h.2 c_
        refine cg_aload_n C (i := 1) rfl 1 rfl dL_holds_613 ?_
        refine cg_aload C 6 rfl dL_holds_614 ?_
        refine cg_aload C 8 rfl dL_holds_616 ?_
        refine cg_aload C 9 rfl dL_holds_618 ?_
        refine cg_iload C 20 rfl dL_holds_620 ?_
        refine cg_iconst C (x := nI 2) rfl dL_holds_622 ?_
        refine cg_irem C (by decide) dL_holds_623 ?_
        refine cg_if_ne C 632 (by decide) dL_holds_624 (fun c_ => ?_) (fun c_ => ?_)
        · have h := h.1 c_
          refine cg_aload C 12 rfl dL_holds_632 ?_
          exact cg_sub [0, 1, 2, 3, 4, 5, 6, 7, 8, 9, 10, 11, 12, 13, 14, 15, 16, 17, 19, 20] rfl (tbs_L_holds_634 C hX hbl hbA hL hlt hR116 x1 x2 x3 x4 x5 x6 x7 x8 x9 x10 x11 x12 x13 x14 x15 x16 x17 x19 x20 x12 x9 x8 x6 x1 cd dd S h)
        · have h := h.2 c_
          refine cg_aload C 11 rfl dL_holds_627 ?_
          refine cg_goto C 634 (by decide) dL_holds_629 ?_
          exact cg_sub [0, 1, 2, 3, 4, 5, 6, 7, 8, 9, 10, 11, 12, 13, 14, 15, 16, 17, 19, 20] rfl (tbs_L_holds_634 C hX hbl hbA hL hlt hR116 x1 x2 x3 x4 x5 x6 x7 x8 x9 x10 x11 x12 x13 x14 x15 x16 x17 x19 x20 x11 x9 x8 x6 x1 cd dd S h)
    · have h := h.2 c_
      exact cg_sub [0, 1, 2, 3, 4, 5, 6, 7, 8, 9, 10, 11, 12, 13, 14, 15, 16, 17, 19] rfl (tbs_L_holds_587 C hX hbl hbA hL hlt hR116 x1 x2 x3 x4 x5 x6 x7 x8 x9 x10 x11 x12 x13 x14 x15 x16 x17 x19 cd dd S h)
set_option maxRecDepth 20000 in
theorem tbs_L_holds_535 {mc ms : Nat} (C : cC p s m args meth c cL_holds 24 (some .boolean) A D Y tp dp RL) {sc L : Nat} {xs : Nat → Int32} (hX : va_X sc L xs s s.heap) (hbl : sc < s.heap.size) (hbA : ¬ A sc) (hL : L ≤ 260) (hlt : l.stackTraces = false) {post : Int32 → cS → Prop} {R116 : Nat → Nat → Nat → Nat → Nat → Nat → Nat → Nat → Nat → Nat → Nat → Nat → Nat → Nat → Nat → Nat → Nat → Int32 → Int32 → Nat → Nat → cS → Prop} (hR116 : ∀ (x1 : Nat) (x2 : Nat) (x3 : Nat) (x4 : Nat) (x5 : Nat) (x6 : Nat) (x7 : Nat) (x8 : Nat) (x9 : Nat) (x10 : Nat) (x11 : Nat) (x12 : Nat) (x13 : Nat) (x14 : Nat) (x15 : Nat) (x16 : Nat) (x17 : Nat) (x18 : Int32) (x19 : Int32) (cd dd : Nat) (S : cS), R116 x1 x2 x3 x4 x5 x6 x7 x8 x9 x10 x11 x12 x13 x14 x15 x16 x17 x18 x19 cd dd S → cG p l e (cRm 14 mc ms 346) s m args below meth c A D Y 24 (MQ below (cQi post D Y A) args s mc ms A) cd dd 116 [(0, .ref sc), (1, .ref x1), (2, .ref x2), (3, .ref x3), (4, .ref x4), (5, .ref x5), (6, .ref x6), (7, .ref x7), (8, .ref x8), (9, .ref x9), (10, .ref x10), (11, .ref x11), (12, .ref x12), (13, .ref x13), (14, .ref x14), (15, .ref x15), (16, .ref x16), (17, .ref x17), (18, .int x18), (19, .int x19)] [] S) (x1 : Nat) (x2 : Nat) (x3 : Nat) (x4 : Nat) (x5 : Nat) (x6 : Nat) (x7 : Nat) (x8 : Nat) (x9 : Nat) (x10 : Nat) (x11 : Nat) (x12 : Nat) (x13 : Nat) (x14 : Nat) (x15 : Nat) (x16 : Nat) (x17 : Nat) (x18 : Int32) (x19 : Int32) (x20 : Int32) (x21 : Int32) (cd dd : Nat) (S : cS) (h : ks_L_holds_535 post dp mc ms L R116 x1 x2 x3 x4 x5 x6 x7 x8 x9 x10 x11 x12 x13 x14 x15 x16 x17 x18 x19 x20 x21 cd dd S) : cG p l e (cRm 14 mc ms 346) s m args below meth c A D Y 24 (MQ below (cQi post D Y A) args s mc ms A) cd dd 535 [(0, .ref sc), (1, .ref x1), (2, .ref x2), (3, .ref x3), (4, .ref x4), (5, .ref x5), (6, .ref x6), (7, .ref x7), (8, .ref x8), (9, .ref x9), (10, .ref x10), (11, .ref x11), (12, .ref x12), (13, .ref x13), (14, .ref x14), (15, .ref x15), (16, .ref x16), (17, .ref x17), (18, .int x18), (19, .int x19), (20, .int x20), (21, .int x21)] [] S := by
  unfold ks_L_holds_535 at h
  refine cg_iload C 21 rfl dL_holds_535 ?_
  refine cg_bipush C (x := nI 25) rfl dL_holds_537 ?_
  refine cg_icmp_ne C 571 (by decide) dL_holds_539 (fun c_ => ?_) (fun c_ => ?_)
  · have h := h.1 c_
    exact cg_sub [0, 1, 2, 3, 4, 5, 6, 7, 8, 9, 10, 11, 12, 13, 14, 15, 16, 17, 18, 19, 20, 21] rfl (tbs_L_holds_571 C hX hbl hbA hL hlt hR116 x1 x2 x3 x4 x5 x6 x7 x8 x9 x10 x11 x12 x13 x14 x15 x16 x17 x18 x19 x20 x21 cd dd S h)
  · have h := h.2 c_
    refine cg_aload C 17 rfl dL_holds_542 ?_
    refine cg_bipush C (x := nI 6) rfl dL_holds_544 ?_
    obtain ⟨hc_546, h⟩ := h
    refine cg_ialoadR C hc_546 dL_holds_546 ?_
    refine cg_if_ne C 571 (by decide) dL_holds_547 (fun c_ => ?_) (fun c_ => ?_)
    · have h := h.1 c_
      exact cg_sub [0, 1, 2, 3, 4, 5, 6, 7, 8, 9, 10, 11, 12, 13, 14, 15, 16, 17, 18, 19, 20, 21] rfl (tbs_L_holds_571 C hX hbl hbA hL hlt hR116 x1 x2 x3 x4 x5 x6 x7 x8 x9 x10 x11 x12 x13 x14 x15 x16 x17 x18 x19 x20 x21 cd dd S h)
    · have h := h.2 c_
      refine cg_aload C 17 rfl dL_holds_550 ?_
      refine cg_iconst C (x := nI 5) rfl dL_holds_552 ?_
      refine cg_iload C 20 rfl dL_holds_553 ?_
      refine cg_bipush C (x := nI 7) rfl dL_holds_555 ?_
      refine cg_irem C (by decide) dL_holds_557 ?_
      obtain ⟨hc_558, h⟩ := h
      refine cg_iastoreR C hc_558 dL_holds_558 ?_
      refine cg_nm (fun S85 e_S85 => ?_)
      have h := h S85 e_S85
      refine cg_aload_n C (i := 1) rfl 1 rfl dL_holds_559 ?_
      refine cg_iload C 20 rfl dL_holds_560 ?_
      refine cg_bipush C (x := nI 7) rfl dL_holds_562 ?_
      refine cg_irem C (by decide) dL_holds_564 ?_
      obtain ⟨hc_565, h⟩ := h
      obtain ⟨hb_565, h⟩ := h
      refine cg_callv C (t_X11_crashAt l x1 ((x20 - x20 / ((nI 7)) * ((nI 7)))) S85 dp h) cc_L_289 hc_565.1 hc_565.2 (by decide) rfl rfl ⟨by decide, by decide⟩ hb_565 rfl (Nat.le_of_ble_eq_true rfl) dL_holds_565 (fun S_86 h => ?_)
      simp only [Nat.add_zero]
      refine cg_goto C 796 (by decide) dL_holds_568 ?_
      exact cg_sub [0, 1, 2, 3, 4, 5, 6, 7, 8, 9, 10, 11, 12, 13, 14, 15, 16, 17, 18, 19] rfl (tbs_L_holds_796 C hX hbl hbA hL hlt hR116 x1 x2 x3 x4 x5 x6 x7 x8 x9 x10 x11 x12 x13 x14 x15 x16 x17 x18 x19 cd dd S_86 h)
set_option maxRecDepth 20000 in
theorem tbs_L_holds_527 {mc ms : Nat} (C : cC p s m args meth c cL_holds 24 (some .boolean) A D Y tp dp RL) {sc L : Nat} {xs : Nat → Int32} (hX : va_X sc L xs s s.heap) (hbl : sc < s.heap.size) (hbA : ¬ A sc) (hL : L ≤ 260) (hlt : l.stackTraces = false) {post : Int32 → cS → Prop} {R116 : Nat → Nat → Nat → Nat → Nat → Nat → Nat → Nat → Nat → Nat → Nat → Nat → Nat → Nat → Nat → Nat → Nat → Int32 → Int32 → Nat → Nat → cS → Prop} (hR116 : ∀ (x1 : Nat) (x2 : Nat) (x3 : Nat) (x4 : Nat) (x5 : Nat) (x6 : Nat) (x7 : Nat) (x8 : Nat) (x9 : Nat) (x10 : Nat) (x11 : Nat) (x12 : Nat) (x13 : Nat) (x14 : Nat) (x15 : Nat) (x16 : Nat) (x17 : Nat) (x18 : Int32) (x19 : Int32) (cd dd : Nat) (S : cS), R116 x1 x2 x3 x4 x5 x6 x7 x8 x9 x10 x11 x12 x13 x14 x15 x16 x17 x18 x19 cd dd S → cG p l e (cRm 14 mc ms 346) s m args below meth c A D Y 24 (MQ below (cQi post D Y A) args s mc ms A) cd dd 116 [(0, .ref sc), (1, .ref x1), (2, .ref x2), (3, .ref x3), (4, .ref x4), (5, .ref x5), (6, .ref x6), (7, .ref x7), (8, .ref x8), (9, .ref x9), (10, .ref x10), (11, .ref x11), (12, .ref x12), (13, .ref x13), (14, .ref x14), (15, .ref x15), (16, .ref x16), (17, .ref x17), (18, .int x18), (19, .int x19)] [] S) (x1 : Nat) (x2 : Nat) (x3 : Nat) (x4 : Nat) (x5 : Nat) (x6 : Nat) (x7 : Nat) (x8 : Nat) (x9 : Nat) (x10 : Nat) (x11 : Nat) (x12 : Nat) (x13 : Nat) (x14 : Nat) (x15 : Nat) (x16 : Nat) (x17 : Nat) (x19 : Int32) (t0 : Int32) (t1 : Nat) (t2 : Nat) (t3 : Nat) (t4 : Nat) (t5 : Nat) (t6 : Nat) (t7 : Nat) (t8 : Nat) (t9 : Nat) (t10 : Nat) (t11 : Nat) (t12 : Nat) (t13 : Nat) (t14 : Nat) (cd dd : Nat) (S : cS) (h : ks_L_holds_527 post dp mc ms L R116 x1 x2 x3 x4 x5 x6 x7 x8 x9 x10 x11 x12 x13 x14 x15 x16 x17 x19 t0 t1 t2 t3 t4 t5 t6 t7 t8 t9 t10 t11 t12 t13 t14 cd dd S) : cG p l e (cRm 14 mc ms 346) s m args below meth c A D Y 24 (MQ below (cQi post D Y A) args s mc ms A) cd dd 527 [(0, .ref sc), (1, .ref x1), (2, .ref x2), (3, .ref x3), (4, .ref x4), (5, .ref x5), (6, .ref x6), (7, .ref x7), (8, .ref x8), (9, .ref x9), (10, .ref x10), (11, .ref x11), (12, .ref x12), (13, .ref x13), (14, .ref x14), (15, .ref x15), (16, .ref x16), (17, .ref x17), (19, .int x19)] [.int t0, .ref t1, .ref t2, .ref t3, .ref t4, .ref t5, .ref t6, .ref t7, .ref t8, .ref t9, .ref t10, .ref t11, .ref t12, .ref t13, .ref t14] S := by
  unfold ks_L_holds_527 at h
  obtain ⟨mc87, ms88, hm_1, hm_2, h⟩ := h
  refine cg_callsi C (t_L_isCommitted l hlt mc87 ms88 t14 t13 t12 t11 t10 t9 t8 t7 t6 t5 t4 t3 t2 t1 t0 S dp h) cc_L_285 rfl ⟨by decide, by decide⟩ ⟨hm_1, hm_2⟩ rfl (Nat.le_of_ble_eq_true rfl) dL_holds_527 (fun r_89 S_89 h => ?_)
  refine cg_istore C (lv' := [(18, .int r_89), (0, .ref sc), (1, .ref x1), (2, .ref x2), (3, .ref x3), (4, .ref x4), (5, .ref x5), (6, .ref x6), (7, .ref x7), (8, .ref x8), (9, .ref x9), (10, .ref x10), (11, .ref x11), (12, .ref x12), (13, .ref x13), (14, .ref x14), (15, .ref x15), (16, .ref x16), (17, .ref x17), (19, .int x19)]) (Nat.le_of_ble_eq_true rfl) rfl dL_holds_530 ?_
  refine cg_goto C 796 (by decide) dL_holds_532 ?_
  exact cg_sub [1, 2, 3, 4, 5, 6, 7, 8, 9, 10, 11, 12, 13, 14, 15, 16, 17, 18, 0, 19] rfl (tbs_L_holds_796 C hX hbl hbA hL hlt hR116 x1 x2 x3 x4 x5 x6 x7 x8 x9 x10 x11 x12 x13 x14 x15 x16 x17 r_89 x19 (cd + mc87) (dd + ms88) S_89 h)
set_option maxRecDepth 20000 in
theorem tbs_L_holds_526 {mc ms : Nat} (C : cC p s m args meth c cL_holds 24 (some .boolean) A D Y tp dp RL) {sc L : Nat} {xs : Nat → Int32} (hX : va_X sc L xs s s.heap) (hbl : sc < s.heap.size) (hbA : ¬ A sc) (hL : L ≤ 260) (hlt : l.stackTraces = false) {post : Int32 → cS → Prop} {R116 : Nat → Nat → Nat → Nat → Nat → Nat → Nat → Nat → Nat → Nat → Nat → Nat → Nat → Nat → Nat → Nat → Nat → Int32 → Int32 → Nat → Nat → cS → Prop} (hR116 : ∀ (x1 : Nat) (x2 : Nat) (x3 : Nat) (x4 : Nat) (x5 : Nat) (x6 : Nat) (x7 : Nat) (x8 : Nat) (x9 : Nat) (x10 : Nat) (x11 : Nat) (x12 : Nat) (x13 : Nat) (x14 : Nat) (x15 : Nat) (x16 : Nat) (x17 : Nat) (x18 : Int32) (x19 : Int32) (cd dd : Nat) (S : cS), R116 x1 x2 x3 x4 x5 x6 x7 x8 x9 x10 x11 x12 x13 x14 x15 x16 x17 x18 x19 cd dd S → cG p l e (cRm 14 mc ms 346) s m args below meth c A D Y 24 (MQ below (cQi post D Y A) args s mc ms A) cd dd 116 [(0, .ref sc), (1, .ref x1), (2, .ref x2), (3, .ref x3), (4, .ref x4), (5, .ref x5), (6, .ref x6), (7, .ref x7), (8, .ref x8), (9, .ref x9), (10, .ref x10), (11, .ref x11), (12, .ref x12), (13, .ref x13), (14, .ref x14), (15, .ref x15), (16, .ref x16), (17, .ref x17), (18, .int x18), (19, .int x19)] [] S) (x1 : Nat) (x2 : Nat) (x3 : Nat) (x4 : Nat) (x5 : Nat) (x6 : Nat) (x7 : Nat) (x8 : Nat) (x9 : Nat) (x10 : Nat) (x11 : Nat) (x12 : Nat) (x13 : Nat) (x14 : Nat) (x15 : Nat) (x16 : Nat) (x17 : Nat) (x19 : Int32) (t0 : Nat) (t1 : Nat) (t2 : Nat) (t3 : Nat) (t4 : Nat) (t5 : Nat) (t6 : Nat) (t7 : Nat) (t8 : Nat) (t9 : Nat) (t10 : Nat) (t11 : Nat) (t12 : Nat) (t13 : Nat) (cd dd : Nat) (S : cS) (h : ks_L_holds_526 post dp mc ms L R116 x1 x2 x3 x4 x5 x6 x7 x8 x9 x10 x11 x12 x13 x14 x15 x16 x17 x19 t0 t1 t2 t3 t4 t5 t6 t7 t8 t9 t10 t11 t12 t13 cd dd S) : cG p l e (cRm 14 mc ms 346) s m args below meth c A D Y 24 (MQ below (cQi post D Y A) args s mc ms A) cd dd 526 [(0, .ref sc), (1, .ref x1), (2, .ref x2), (3, .ref x3), (4, .ref x4), (5, .ref x5), (6, .ref x6), (7, .ref x7), (8, .ref x8), (9, .ref x9), (10, .ref x10), (11, .ref x11), (12, .ref x12), (13, .ref x13), (14, .ref x14), (15, .ref x15), (16, .ref x16), (17, .ref x17), (19, .int x19)] [.ref t0, .ref t1, .ref t2, .ref t3, .ref t4, .ref t5, .ref t6, .ref t7, .ref t8, .ref t9, .ref t10, .ref t11, .ref t12, .ref t13] S := by
  unfold ks_L_holds_526 at h
  refine cg_iconst C (x := nI 1) rfl dL_holds_526 ?_
  exact cg_sub [0, 1, 2, 3, 4, 5, 6, 7, 8, 9, 10, 11, 12, 13, 14, 15, 16, 17, 18] rfl (tbs_L_holds_527 C hX hbl hbA hL hlt hR116 x1 x2 x3 x4 x5 x6 x7 x8 x9 x10 x11 x12 x13 x14 x15 x16 x17 x19 ((nI 1)) t0 t1 t2 t3 t4 t5 t6 t7 t8 t9 t10 t11 t12 t13 cd dd S h)
set_option maxRecDepth 20000 in
theorem tbs_L_holds_460 {mc ms : Nat} (C : cC p s m args meth c cL_holds 24 (some .boolean) A D Y tp dp RL) {sc L : Nat} {xs : Nat → Int32} (hX : va_X sc L xs s s.heap) (hbl : sc < s.heap.size) (hbA : ¬ A sc) (hL : L ≤ 260) (hlt : l.stackTraces = false) {post : Int32 → cS → Prop} {R116 : Nat → Nat → Nat → Nat → Nat → Nat → Nat → Nat → Nat → Nat → Nat → Nat → Nat → Nat → Nat → Nat → Nat → Int32 → Int32 → Nat → Nat → cS → Prop} (hR116 : ∀ (x1 : Nat) (x2 : Nat) (x3 : Nat) (x4 : Nat) (x5 : Nat) (x6 : Nat) (x7 : Nat) (x8 : Nat) (x9 : Nat) (x10 : Nat) (x11 : Nat) (x12 : Nat) (x13 : Nat) (x14 : Nat) (x15 : Nat) (x16 : Nat) (x17 : Nat) (x18 : Int32) (x19 : Int32) (cd dd : Nat) (S : cS), R116 x1 x2 x3 x4 x5 x6 x7 x8 x9 x10 x11 x12 x13 x14 x15 x16 x17 x18 x19 cd dd S → cG p l e (cRm 14 mc ms 346) s m args below meth c A D Y 24 (MQ below (cQi post D Y A) args s mc ms A) cd dd 116 [(0, .ref sc), (1, .ref x1), (2, .ref x2), (3, .ref x3), (4, .ref x4), (5, .ref x5), (6, .ref x6), (7, .ref x7), (8, .ref x8), (9, .ref x9), (10, .ref x10), (11, .ref x11), (12, .ref x12), (13, .ref x13), (14, .ref x14), (15, .ref x15), (16, .ref x16), (17, .ref x17), (18, .int x18), (19, .int x19)] [] S) (x1 : Nat) (x2 : Nat) (x3 : Nat) (x4 : Nat) (x5 : Nat) (x6 : Nat) (x7 : Nat) (x8 : Nat) (x9 : Nat) (x10 : Nat) (x11 : Nat) (x12 : Nat) (x13 : Nat) (x14 : Nat) (x15 : Nat) (x16 : Nat) (x17 : Nat) (x18 : Int32) (x19 : Int32) (x20 : Int32) (x21 : Int32) (x22 : Int32) (cd dd : Nat) (S : cS) (h : ks_L_holds_460 post dp mc ms L R116 x1 x2 x3 x4 x5 x6 x7 x8 x9 x10 x11 x12 x13 x14 x15 x16 x17 x18 x19 x20 x21 x22 cd dd S) : cG p l e (cRm 14 mc ms 346) s m args below meth c A D Y 24 (MQ below (cQi post D Y A) args s mc ms A) cd dd 460 [(0, .ref sc), (1, .ref x1), (2, .ref x2), (3, .ref x3), (4, .ref x4), (5, .ref x5), (6, .ref x6), (7, .ref x7), (8, .ref x8), (9, .ref x9), (10, .ref x10), (11, .ref x11), (12, .ref x12), (13, .ref x13), (14, .ref x14), (15, .ref x15), (16, .ref x16), (17, .ref x17), (18, .int x18), (19, .int x19), (20, .int x20), (21, .int x21), (22, .int x22)] [] S := by
  unfold ks_L_holds_460 at h
  refine cg_iload C 21 rfl dL_holds_460 ?_
  refine cg_bipush C (x := nI 25) rfl dL_holds_462 ?_
  refine cg_icmp_ge C 535 (by decide) dL_holds_464 (fun c_ => ?_) (fun c_ => ?_)
  · have h := h.1 c_
    exact cg_sub [0, 1, 2, 3, 4, 5, 6, 7, 8, 9, 10, 11, 12, 13, 14, 15, 16, 17, 18, 19, 20, 21] rfl (tbs_L_holds_535 C hX hbl hbA hL hlt hR116 x1 x2 x3 x4 x5 x6 x7 x8 x9 x10 x11 x12 x13 x14 x15 x16 x17 x18 x19 x20 x21 cd dd S h)
  · have h := h.2 c_
    refine cg_iload C 22 rfl dL_holds_467 ?_
    refine cg_if_eq C 535 (by decide) dL_holds_469 (fun c_ => ?_) (fun c_ => ?_)
    · have h := h.1 c_
      exact cg_sub [0, 1, 2, 3, 4, 5, 6, 7, 8, 9, 10, 11, 12, 13, 14, 15, 16, 17, 18, 19, 20, 21] rfl (tbs_L_holds_535 C hX hbl hbA hL hlt hR116 x1 x2 x3 x4 x5 x6 x7 x8 x9 x10 x11 x12 x13 x14 x15 x16 x17 x18 x19 x20 x21 cd dd S h)
    · have h := h.2 c_
      refine cg_aload_n C (i := 1) rfl 1 rfl dL_holds_472 ?_
      refine cg_aload_n C (i := 2) rfl 2 rfl dL_holds_473 ?_
      refine cg_aload_n C (i := 3) rfl 3 rfl dL_holds_474 ?_
      refine cg_aload C 4 rfl dL_holds_475 ?_
      refine cg_aload C 5 rfl dL_holds_477 ?_
      refine cg_aload C 6 rfl dL_holds_479 ?_
      refine cg_aload C 7 rfl dL_holds_481 ?_
      refine cg_aload C 8 rfl dL_holds_483 ?_
      refine cg_aload C 9 rfl dL_holds_485 ?_
      refine cg_aload C 10 rfl dL_holds_487 ?_
      refine cg_aload C 11 rfl dL_holds_489 ?_
      refine cg_aload C 12 rfl dL_holds_491 ?_
      refine cg_aload C 17 rfl dL_holds_493 ?_
      refine cg_aload C 16 rfl dL_holds_495 ?_
      refine cg_iload C 21 rfl dL_holds_497 ?_
      refine cg_bipush C (x := nI 23) rfl dL_holds_499 ?_
      refine cg_icmp_ge C 508 (by decide) dL_holds_501 (fun c_ => ?_) (fun c_ => ?_)
      · have h := h.1 c_
        refine cg_iload C 21 rfl dL_holds_508 ?_
        refine cg_bipush C (x := nI 24) rfl dL_holds_510 ?_
        refine cg_icmp_ne C 526 (by decide) dL_holds_512 (fun c_ => ?_) (fun c_ => ?_)
        · have h := h.1 c_
          exact cg_sub [0, 1, 2, 3, 4, 5, 6, 7, 8, 9, 10, 11, 12, 13, 14, 15, 16, 17, 19] rfl (tbs_L_holds_526 C hX hbl hbA hL hlt hR116 x1 x2 x3 x4 x5 x6 x7 x8 x9 x10 x11 x12 x13 x14 x15 x16 x17 x19 x16 x17 x12 x11 x10 x9 x8 x7 x6 x5 x4 x3 x2 x1 cd dd S h)
        · have h := h.2 c_
          refine cg_iload C 20 rfl dL_holds_515 ?_
          refine cg_iconst C (x := nI 3) rfl dL_holds_517 ?_
          refine cg_irem C (by decide) dL_holds_518 ?_
          refine cg_if_ne C 526 (by decide) dL_holds_519 (fun c_ => ?_) (fun c_ => ?_)
          · have h := h.1 c_
            exact cg_sub [0, 1, 2, 3, 4, 5, 6, 7, 8, 9, 10, 11, 12, 13, 14, 15, 16, 17, 19] rfl (tbs_L_holds_526 C hX hbl hbA hL hlt hR116 x1 x2 x3 x4 x5 x6 x7 x8 x9 x10 x11 x12 x13 x14 x15 x16 x17 x19 x16 x17 x12 x11 x10 x9 x8 x7 x6 x5 x4 x3 x2 x1 cd dd S h)
          · have h := h.2 c_
            refine cg_iconst C (x := nI 2) rfl dL_holds_522 ?_
            refine cg_goto C 527 (by decide) dL_holds_523 ?_
            exact cg_sub [0, 1, 2, 3, 4, 5, 6, 7, 8, 9, 10, 11, 12, 13, 14, 15, 16, 17, 19] rfl (tbs_L_holds_527 C hX hbl hbA hL hlt hR116 x1 x2 x3 x4 x5 x6 x7 x8 x9 x10 x11 x12 x13 x14 x15 x16 x17 x19 ((nI 2)) x16 x17 x12 x11 x10 x9 x8 x7 x6 x5 x4 x3 x2 x1 cd dd S h)
      · have h := h.2 c_
        refine cg_iconst C (x := nI 0) rfl dL_holds_504 ?_
        refine cg_goto C 527 (by decide) dL_holds_505 ?_
        exact cg_sub [0, 1, 2, 3, 4, 5, 6, 7, 8, 9, 10, 11, 12, 13, 14, 15, 16, 17, 19] rfl (tbs_L_holds_527 C hX hbl hbA hL hlt hR116 x1 x2 x3 x4 x5 x6 x7 x8 x9 x10 x11 x12 x13 x14 x15 x16 x17 x19 ((nI 0)) x16 x17 x12 x11 x10 x9 x8 x7 x6 x5 x4 x3 x2 x1 cd dd S h)
set_option maxRecDepth 20000 in
theorem tbs_L_holds_452 {mc ms : Nat} (C : cC p s m args meth c cL_holds 24 (some .boolean) A D Y tp dp RL) {sc L : Nat} {xs : Nat → Int32} (hX : va_X sc L xs s s.heap) (hbl : sc < s.heap.size) (hbA : ¬ A sc) (hL : L ≤ 260) (hlt : l.stackTraces = false) {post : Int32 → cS → Prop} {R116 : Nat → Nat → Nat → Nat → Nat → Nat → Nat → Nat → Nat → Nat → Nat → Nat → Nat → Nat → Nat → Nat → Nat → Int32 → Int32 → Nat → Nat → cS → Prop} (hR116 : ∀ (x1 : Nat) (x2 : Nat) (x3 : Nat) (x4 : Nat) (x5 : Nat) (x6 : Nat) (x7 : Nat) (x8 : Nat) (x9 : Nat) (x10 : Nat) (x11 : Nat) (x12 : Nat) (x13 : Nat) (x14 : Nat) (x15 : Nat) (x16 : Nat) (x17 : Nat) (x18 : Int32) (x19 : Int32) (cd dd : Nat) (S : cS), R116 x1 x2 x3 x4 x5 x6 x7 x8 x9 x10 x11 x12 x13 x14 x15 x16 x17 x18 x19 cd dd S → cG p l e (cRm 14 mc ms 346) s m args below meth c A D Y 24 (MQ below (cQi post D Y A) args s mc ms A) cd dd 116 [(0, .ref sc), (1, .ref x1), (2, .ref x2), (3, .ref x3), (4, .ref x4), (5, .ref x5), (6, .ref x6), (7, .ref x7), (8, .ref x8), (9, .ref x9), (10, .ref x10), (11, .ref x11), (12, .ref x12), (13, .ref x13), (14, .ref x14), (15, .ref x15), (16, .ref x16), (17, .ref x17), (18, .int x18), (19, .int x19)] [] S) (x1 : Nat) (x2 : Nat) (x3 : Nat) (x4 : Nat) (x5 : Nat) (x6 : Nat) (x7 : Nat) (x8 : Nat) (x9 : Nat) (x10 : Nat) (x11 : Nat) (x12 : Nat) (x13 : Nat) (x14 : Nat) (x15 : Nat) (x16 : Nat) (x17 : Nat) (x19 : Int32) (t0 : Int32) (t1 : Nat) (t2 : Nat) (t3 : Nat) (t4 : Nat) (t5 : Nat) (t6 : Nat) (t7 : Nat) (t8 : Nat) (t9 : Nat) (t10 : Nat) (t11 : Nat) (cd dd : Nat) (S : cS) (h : ks_L_holds_452 post dp mc ms L R116 x1 x2 x3 x4 x5 x6 x7 x8 x9 x10 x11 x12 x13 x14 x15 x16 x17 x19 t0 t1 t2 t3 t4 t5 t6 t7 t8 t9 t10 t11 cd dd S) : cG p l e (cRm 14 mc ms 346) s m args below meth c A D Y 24 (MQ below (cQi post D Y A) args s mc ms A) cd dd 452 [(0, .ref sc), (1, .ref x1), (2, .ref x2), (3, .ref x3), (4, .ref x4), (5, .ref x5), (6, .ref x6), (7, .ref x7), (8, .ref x8), (9, .ref x9), (10, .ref x10), (11, .ref x11), (12, .ref x12), (13, .ref x13), (14, .ref x14), (15, .ref x15), (16, .ref x16), (17, .ref x17), (19, .int x19)] [.int t0, .ref t1, .ref t2, .ref t3, .ref t4, .ref t5, .ref t6, .ref t7, .ref t8, .ref t9, .ref t10, .ref t11] S := by
  unfold ks_L_holds_452 at h
  obtain ⟨mc90, ms91, hm_1, hm_2, h⟩ := h
  refine cg_callsi C (t_L_isMerged l hlt mc90 ms91 t11 t10 t9 t8 t7 t6 t5 t4 t3 t2 t1 t0 S dp h) cc_L_281 rfl ⟨by decide, by decide⟩ ⟨hm_1, hm_2⟩ rfl (Nat.le_of_ble_eq_true rfl) dL_holds_452 (fun r_92 S_92 h => ?_)
  refine cg_istore C (lv' := [(18, .int r_92), (0, .ref sc), (1, .ref x1), (2, .ref x2), (3, .ref x3), (4, .ref x4), (5, .ref x5), (6, .ref x6), (7, .ref x7), (8, .ref x8), (9, .ref x9), (10, .ref x10), (11, .ref x11), (12, .ref x12), (13, .ref x13), (14, .ref x14), (15, .ref x15), (16, .ref x16), (17, .ref x17), (19, .int x19)]) (Nat.le_of_ble_eq_true rfl) rfl dL_holds_455 ?_
  refine cg_goto C 796 (by decide) dL_holds_457 ?_
  exact cg_sub [1, 2, 3, 4, 5, 6, 7, 8, 9, 10, 11, 12, 13, 14, 15, 16, 17, 18, 0, 19] rfl (tbs_L_holds_796 C hX hbl hbA hL hlt hR116 x1 x2 x3 x4 x5 x6 x7 x8 x9 x10 x11 x12 x13 x14 x15 x16 x17 r_92 x19 (cd + mc90) (dd + ms91) S_92 h)
set_option maxRecDepth 20000 in
theorem tbs_L_holds_451 {mc ms : Nat} (C : cC p s m args meth c cL_holds 24 (some .boolean) A D Y tp dp RL) {sc L : Nat} {xs : Nat → Int32} (hX : va_X sc L xs s s.heap) (hbl : sc < s.heap.size) (hbA : ¬ A sc) (hL : L ≤ 260) (hlt : l.stackTraces = false) {post : Int32 → cS → Prop} {R116 : Nat → Nat → Nat → Nat → Nat → Nat → Nat → Nat → Nat → Nat → Nat → Nat → Nat → Nat → Nat → Nat → Nat → Int32 → Int32 → Nat → Nat → cS → Prop} (hR116 : ∀ (x1 : Nat) (x2 : Nat) (x3 : Nat) (x4 : Nat) (x5 : Nat) (x6 : Nat) (x7 : Nat) (x8 : Nat) (x9 : Nat) (x10 : Nat) (x11 : Nat) (x12 : Nat) (x13 : Nat) (x14 : Nat) (x15 : Nat) (x16 : Nat) (x17 : Nat) (x18 : Int32) (x19 : Int32) (cd dd : Nat) (S : cS), R116 x1 x2 x3 x4 x5 x6 x7 x8 x9 x10 x11 x12 x13 x14 x15 x16 x17 x18 x19 cd dd S → cG p l e (cRm 14 mc ms 346) s m args below meth c A D Y 24 (MQ below (cQi post D Y A) args s mc ms A) cd dd 116 [(0, .ref sc), (1, .ref x1), (2, .ref x2), (3, .ref x3), (4, .ref x4), (5, .ref x5), (6, .ref x6), (7, .ref x7), (8, .ref x8), (9, .ref x9), (10, .ref x10), (11, .ref x11), (12, .ref x12), (13, .ref x13), (14, .ref x14), (15, .ref x15), (16, .ref x16), (17, .ref x17), (18, .int x18), (19, .int x19)] [] S) (x1 : Nat) (x2 : Nat) (x3 : Nat) (x4 : Nat) (x5 : Nat) (x6 : Nat) (x7 : Nat) (x8 : Nat) (x9 : Nat) (x10 : Nat) (x11 : Nat) (x12 : Nat) (x13 : Nat) (x14 : Nat) (x15 : Nat) (x16 : Nat) (x17 : Nat) (x19 : Int32) (t0 : Nat) (t1 : Nat) (t2 : Nat) (t3 : Nat) (t4 : Nat) (t5 : Nat) (t6 : Nat) (t7 : Nat) (t8 : Nat) (t9 : Nat) (t10 : Nat) (cd dd : Nat) (S : cS) (h : ks_L_holds_451 post dp mc ms L R116 x1 x2 x3 x4 x5 x6 x7 x8 x9 x10 x11 x12 x13 x14 x15 x16 x17 x19 t0 t1 t2 t3 t4 t5 t6 t7 t8 t9 t10 cd dd S) : cG p l e (cRm 14 mc ms 346) s m args below meth c A D Y 24 (MQ below (cQi post D Y A) args s mc ms A) cd dd 451 [(0, .ref sc), (1, .ref x1), (2, .ref x2), (3, .ref x3), (4, .ref x4), (5, .ref x5), (6, .ref x6), (7, .ref x7), (8, .ref x8), (9, .ref x9), (10, .ref x10), (11, .ref x11), (12, .ref x12), (13, .ref x13), (14, .ref x14), (15, .ref x15), (16, .ref x16), (17, .ref x17), (19, .int x19)] [.ref t0, .ref t1, .ref t2, .ref t3, .ref t4, .ref t5, .ref t6, .ref t7, .ref t8, .ref t9, .ref t10] S := by
  unfold ks_L_holds_451 at h
  refine cg_iconst C (x := nI 1) rfl dL_holds_451 ?_
  exact cg_sub [0, 1, 2, 3, 4, 5, 6, 7, 8, 9, 10, 11, 12, 13, 14, 15, 16, 17, 18] rfl (tbs_L_holds_452 C hX hbl hbA hL hlt hR116 x1 x2 x3 x4 x5 x6 x7 x8 x9 x10 x11 x12 x13 x14 x15 x16 x17 x19 ((nI 1)) t0 t1 t2 t3 t4 t5 t6 t7 t8 t9 t10 cd dd S h)
set_option maxRecDepth 20000 in
theorem tbs_L_holds_389 {mc ms : Nat} (C : cC p s m args meth c cL_holds 24 (some .boolean) A D Y tp dp RL) {sc L : Nat} {xs : Nat → Int32} (hX : va_X sc L xs s s.heap) (hbl : sc < s.heap.size) (hbA : ¬ A sc) (hL : L ≤ 260) (hlt : l.stackTraces = false) {post : Int32 → cS → Prop} {R116 : Nat → Nat → Nat → Nat → Nat → Nat → Nat → Nat → Nat → Nat → Nat → Nat → Nat → Nat → Nat → Nat → Nat → Int32 → Int32 → Nat → Nat → cS → Prop} (hR116 : ∀ (x1 : Nat) (x2 : Nat) (x3 : Nat) (x4 : Nat) (x5 : Nat) (x6 : Nat) (x7 : Nat) (x8 : Nat) (x9 : Nat) (x10 : Nat) (x11 : Nat) (x12 : Nat) (x13 : Nat) (x14 : Nat) (x15 : Nat) (x16 : Nat) (x17 : Nat) (x18 : Int32) (x19 : Int32) (cd dd : Nat) (S : cS), R116 x1 x2 x3 x4 x5 x6 x7 x8 x9 x10 x11 x12 x13 x14 x15 x16 x17 x18 x19 cd dd S → cG p l e (cRm 14 mc ms 346) s m args below meth c A D Y 24 (MQ below (cQi post D Y A) args s mc ms A) cd dd 116 [(0, .ref sc), (1, .ref x1), (2, .ref x2), (3, .ref x3), (4, .ref x4), (5, .ref x5), (6, .ref x6), (7, .ref x7), (8, .ref x8), (9, .ref x9), (10, .ref x10), (11, .ref x11), (12, .ref x12), (13, .ref x13), (14, .ref x14), (15, .ref x15), (16, .ref x16), (17, .ref x17), (18, .int x18), (19, .int x19)] [] S) (x1 : Nat) (x2 : Nat) (x3 : Nat) (x4 : Nat) (x5 : Nat) (x6 : Nat) (x7 : Nat) (x8 : Nat) (x9 : Nat) (x10 : Nat) (x11 : Nat) (x12 : Nat) (x13 : Nat) (x14 : Nat) (x15 : Nat) (x16 : Nat) (x17 : Nat) (x18 : Int32) (x19 : Int32) (x20 : Int32) (x21 : Int32) (x22 : Int32) (cd dd : Nat) (S : cS) (h : ks_L_holds_389 post dp mc ms L R116 x1 x2 x3 x4 x5 x6 x7 x8 x9 x10 x11 x12 x13 x14 x15 x16 x17 x18 x19 x20 x21 x22 cd dd S) : cG p l e (cRm 14 mc ms 346) s m args below meth c A D Y 24 (MQ below (cQi post D Y A) args s mc ms A) cd dd 389 [(0, .ref sc), (1, .ref x1), (2, .ref x2), (3, .ref x3), (4, .ref x4), (5, .ref x5), (6, .ref x6), (7, .ref x7), (8, .ref x8), (9, .ref x9), (10, .ref x10), (11, .ref x11), (12, .ref x12), (13, .ref x13), (14, .ref x14), (15, .ref x15), (16, .ref x16), (17, .ref x17), (18, .int x18), (19, .int x19), (20, .int x20), (21, .int x21), (22, .int x22)] [] S := by
  unfold ks_L_holds_389 at h
  refine cg_iload C 21 rfl dL_holds_389 ?_
  refine cg_bipush C (x := nI 21) rfl dL_holds_391 ?_
  refine cg_icmp_ge C 460 (by decide) dL_holds_393 (fun c_ => ?_) (fun c_ => ?_)
  · have h := h.1 c_
    exact cg_sub [0, 1, 2, 3, 4, 5, 6, 7, 8, 9, 10, 11, 12, 13, 14, 15, 16, 17, 18, 19, 20, 21, 22] rfl (tbs_L_holds_460 C hX hbl hbA hL hlt hR116 x1 x2 x3 x4 x5 x6 x7 x8 x9 x10 x11 x12 x13 x14 x15 x16 x17 x18 x19 x20 x21 x22 cd dd S h)
  · have h := h.2 c_
    refine cg_iload C 22 rfl dL_holds_396 ?_
    refine cg_if_eq C 460 (by decide) dL_holds_398 (fun c_ => ?_) (fun c_ => ?_)
    · have h := h.1 c_
      exact cg_sub [0, 1, 2, 3, 4, 5, 6, 7, 8, 9, 10, 11, 12, 13, 14, 15, 16, 17, 18, 19, 20, 21, 22] rfl (tbs_L_holds_460 C hX hbl hbA hL hlt hR116 x1 x2 x3 x4 x5 x6 x7 x8 x9 x10 x11 x12 x13 x14 x15 x16 x17 x18 x19 x20 x21 x22 cd dd S h)
    · have h := h.2 c_
      refine cg_aload_n C (i := 1) rfl 1 rfl dL_holds_401 ?_
      refine cg_aload C 4 rfl dL_holds_402 ?_
      refine cg_aload C 5 rfl dL_holds_404 ?_
      refine cg_aload C 6 rfl dL_holds_406 ?_
      refine cg_aload C 7 rfl dL_holds_408 ?_
      refine cg_aload C 8 rfl dL_holds_410 ?_
      refine cg_aload C 15 rfl dL_holds_412 ?_
      refine cg_aload C 10 rfl dL_holds_414 ?_
      refine cg_aload C 11 rfl dL_holds_416 ?_
      refine cg_aload C 12 rfl dL_holds_418 ?_
      refine cg_aload C 17 rfl dL_holds_420 ?_
      refine cg_iload C 21 rfl dL_holds_422 ?_
      refine cg_bipush C (x := nI 16) rfl dL_holds_424 ?_
      refine cg_icmp_ge C 433 (by decide) dL_holds_426 (fun c_ => ?_) (fun c_ => ?_)
      · have h := h.1 c_
        refine cg_iload C 21 rfl dL_holds_433 ?_
        refine cg_bipush C (x := nI 20) rfl dL_holds_435 ?_
        refine cg_icmp_ne C 451 (by decide) dL_holds_437 (fun c_ => ?_) (fun c_ => ?_)
        · have h := h.1 c_
          exact cg_sub [0, 1, 2, 3, 4, 5, 6, 7, 8, 9, 10, 11, 12, 13, 14, 15, 16, 17, 19] rfl (tbs_L_holds_451 C hX hbl hbA hL hlt hR116 x1 x2 x3 x4 x5 x6 x7 x8 x9 x10 x11 x12 x13 x14 x15 x16 x17 x19 x17 x12 x11 x10 x15 x8 x7 x6 x5 x4 x1 cd dd S h)
        · have h := h.2 c_
          refine cg_iload C 20 rfl dL_holds_440 ?_
          refine cg_iconst C (x := nI 4) rfl dL_holds_442 ?_
          refine cg_irem C (by decide) dL_holds_443 ?_
          refine cg_if_ne C 451 (by decide) dL_holds_444 (fun c_ => ?_) (fun c_ => ?_)
          · have h := h.1 c_
            exact cg_sub [0, 1, 2, 3, 4, 5, 6, 7, 8, 9, 10, 11, 12, 13, 14, 15, 16, 17, 19] rfl (tbs_L_holds_451 C hX hbl hbA hL hlt hR116 x1 x2 x3 x4 x5 x6 x7 x8 x9 x10 x11 x12 x13 x14 x15 x16 x17 x19 x17 x12 x11 x10 x15 x8 x7 x6 x5 x4 x1 cd dd S h)
          · have h := h.2 c_
            refine cg_iconst C (x := nI 2) rfl dL_holds_447 ?_
            refine cg_goto C 452 (by decide) dL_holds_448 ?_
            exact cg_sub [0, 1, 2, 3, 4, 5, 6, 7, 8, 9, 10, 11, 12, 13, 14, 15, 16, 17, 19] rfl (tbs_L_holds_452 C hX hbl hbA hL hlt hR116 x1 x2 x3 x4 x5 x6 x7 x8 x9 x10 x11 x12 x13 x14 x15 x16 x17 x19 ((nI 2)) x17 x12 x11 x10 x15 x8 x7 x6 x5 x4 x1 cd dd S h)
      · have h := h.2 c_
        refine cg_iconst C (x := nI 0) rfl dL_holds_429 ?_
        refine cg_goto C 452 (by decide) dL_holds_430 ?_
        exact cg_sub [0, 1, 2, 3, 4, 5, 6, 7, 8, 9, 10, 11, 12, 13, 14, 15, 16, 17, 19] rfl (tbs_L_holds_452 C hX hbl hbA hL hlt hR116 x1 x2 x3 x4 x5 x6 x7 x8 x9 x10 x11 x12 x13 x14 x15 x16 x17 x19 ((nI 0)) x17 x12 x11 x10 x15 x8 x7 x6 x5 x4 x1 cd dd S h)
set_option maxRecDepth 20000 in
theorem tbs_L_holds_384 {mc ms : Nat} (C : cC p s m args meth c cL_holds 24 (some .boolean) A D Y tp dp RL) {sc L : Nat} {xs : Nat → Int32} (hX : va_X sc L xs s s.heap) (hbl : sc < s.heap.size) (hbA : ¬ A sc) (hL : L ≤ 260) (hlt : l.stackTraces = false) {post : Int32 → cS → Prop} {R116 : Nat → Nat → Nat → Nat → Nat → Nat → Nat → Nat → Nat → Nat → Nat → Nat → Nat → Nat → Nat → Nat → Nat → Int32 → Int32 → Nat → Nat → cS → Prop} (hR116 : ∀ (x1 : Nat) (x2 : Nat) (x3 : Nat) (x4 : Nat) (x5 : Nat) (x6 : Nat) (x7 : Nat) (x8 : Nat) (x9 : Nat) (x10 : Nat) (x11 : Nat) (x12 : Nat) (x13 : Nat) (x14 : Nat) (x15 : Nat) (x16 : Nat) (x17 : Nat) (x18 : Int32) (x19 : Int32) (cd dd : Nat) (S : cS), R116 x1 x2 x3 x4 x5 x6 x7 x8 x9 x10 x11 x12 x13 x14 x15 x16 x17 x18 x19 cd dd S → cG p l e (cRm 14 mc ms 346) s m args below meth c A D Y 24 (MQ below (cQi post D Y A) args s mc ms A) cd dd 116 [(0, .ref sc), (1, .ref x1), (2, .ref x2), (3, .ref x3), (4, .ref x4), (5, .ref x5), (6, .ref x6), (7, .ref x7), (8, .ref x8), (9, .ref x9), (10, .ref x10), (11, .ref x11), (12, .ref x12), (13, .ref x13), (14, .ref x14), (15, .ref x15), (16, .ref x16), (17, .ref x17), (18, .int x18), (19, .int x19)] [] S) (x1 : Nat) (x2 : Nat) (x3 : Nat) (x4 : Nat) (x5 : Nat) (x6 : Nat) (x7 : Nat) (x8 : Nat) (x9 : Nat) (x10 : Nat) (x11 : Nat) (x12 : Nat) (x13 : Nat) (x14 : Nat) (x15 : Nat) (x16 : Nat) (x17 : Nat) (x19 : Int32) (t0 : Int32) (cd dd : Nat) (S : cS) (h : ks_L_holds_384 post dp mc ms L R116 x1 x2 x3 x4 x5 x6 x7 x8 x9 x10 x11 x12 x13 x14 x15 x16 x17 x19 t0 cd dd S) : cG p l e (cRm 14 mc ms 346) s m args below meth c A D Y 24 (MQ below (cQi post D Y A) args s mc ms A) cd dd 384 [(0, .ref sc), (1, .ref x1), (2, .ref x2), (3, .ref x3), (4, .ref x4), (5, .ref x5), (6, .ref x6), (7, .ref x7), (8, .ref x8), (9, .ref x9), (10, .ref x10), (11, .ref x11), (12, .ref x12), (13, .ref x13), (14, .ref x14), (15, .ref x15), (16, .ref x16), (17, .ref x17), (19, .int x19)] [.int t0] S := by
  unfold ks_L_holds_384 at h
  refine cg_istore C (lv' := [(18, .int t0), (0, .ref sc), (1, .ref x1), (2, .ref x2), (3, .ref x3), (4, .ref x4), (5, .ref x5), (6, .ref x6), (7, .ref x7), (8, .ref x8), (9, .ref x9), (10, .ref x10), (11, .ref x11), (12, .ref x12), (13, .ref x13), (14, .ref x14), (15, .ref x15), (16, .ref x16), (17, .ref x17), (19, .int x19)]) (Nat.le_of_ble_eq_true rfl) rfl dL_holds_384 ?_
  refine cg_goto C 796 (by decide) dL_holds_386 ?_
  exact cg_sub [1, 2, 3, 4, 5, 6, 7, 8, 9, 10, 11, 12, 13, 14, 15, 16, 17, 18, 0, 19] rfl (tbs_L_holds_796 C hX hbl hbA hL hlt hR116 x1 x2 x3 x4 x5 x6 x7 x8 x9 x10 x11 x12 x13 x14 x15 x16 x17 t0 x19 cd dd S h)
set_option maxRecDepth 20000 in
theorem tbs_L_holds_367 {mc ms : Nat} (C : cC p s m args meth c cL_holds 24 (some .boolean) A D Y tp dp RL) {sc L : Nat} {xs : Nat → Int32} (hX : va_X sc L xs s s.heap) (hbl : sc < s.heap.size) (hbA : ¬ A sc) (hL : L ≤ 260) (hlt : l.stackTraces = false) {post : Int32 → cS → Prop} {R116 : Nat → Nat → Nat → Nat → Nat → Nat → Nat → Nat → Nat → Nat → Nat → Nat → Nat → Nat → Nat → Nat → Nat → Int32 → Int32 → Nat → Nat → cS → Prop} (hR116 : ∀ (x1 : Nat) (x2 : Nat) (x3 : Nat) (x4 : Nat) (x5 : Nat) (x6 : Nat) (x7 : Nat) (x8 : Nat) (x9 : Nat) (x10 : Nat) (x11 : Nat) (x12 : Nat) (x13 : Nat) (x14 : Nat) (x15 : Nat) (x16 : Nat) (x17 : Nat) (x18 : Int32) (x19 : Int32) (cd dd : Nat) (S : cS), R116 x1 x2 x3 x4 x5 x6 x7 x8 x9 x10 x11 x12 x13 x14 x15 x16 x17 x18 x19 cd dd S → cG p l e (cRm 14 mc ms 346) s m args below meth c A D Y 24 (MQ below (cQi post D Y A) args s mc ms A) cd dd 116 [(0, .ref sc), (1, .ref x1), (2, .ref x2), (3, .ref x3), (4, .ref x4), (5, .ref x5), (6, .ref x6), (7, .ref x7), (8, .ref x8), (9, .ref x9), (10, .ref x10), (11, .ref x11), (12, .ref x12), (13, .ref x13), (14, .ref x14), (15, .ref x15), (16, .ref x16), (17, .ref x17), (18, .int x18), (19, .int x19)] [] S) (x1 : Nat) (x2 : Nat) (x3 : Nat) (x4 : Nat) (x5 : Nat) (x6 : Nat) (x7 : Nat) (x8 : Nat) (x9 : Nat) (x10 : Nat) (x11 : Nat) (x12 : Nat) (x13 : Nat) (x14 : Nat) (x15 : Nat) (x16 : Nat) (x17 : Nat) (x19 : Int32) (t0 : Int32) (cd dd : Nat) (S : cS) (h : ks_L_holds_367 post dp mc ms L R116 x1 x2 x3 x4 x5 x6 x7 x8 x9 x10 x11 x12 x13 x14 x15 x16 x17 x19 t0 cd dd S) : cG p l e (cRm 14 mc ms 346) s m args below meth c A D Y 24 (MQ below (cQi post D Y A) args s mc ms A) cd dd 367 [(0, .ref sc), (1, .ref x1), (2, .ref x2), (3, .ref x3), (4, .ref x4), (5, .ref x5), (6, .ref x6), (7, .ref x7), (8, .ref x8), (9, .ref x9), (10, .ref x10), (11, .ref x11), (12, .ref x12), (13, .ref x13), (14, .ref x14), (15, .ref x15), (16, .ref x16), (17, .ref x17), (19, .int x19)] [.int t0] S := by
  unfold ks_L_holds_367 at h
  refine cg_istore C (lv' := [(23, .int t0), (0, .ref sc), (1, .ref x1), (2, .ref x2), (3, .ref x3), (4, .ref x4), (5, .ref x5), (6, .ref x6), (7, .ref x7), (8, .ref x8), (9, .ref x9), (10, .ref x10), (11, .ref x11), (12, .ref x12), (13, .ref x13), (14, .ref x14), (15, .ref x15), (16, .ref x16), (17, .ref x17), (19, .int x19)]) (Nat.le_of_ble_eq_true rfl) rfl dL_holds_367 ?_
  refine cg_aload_n C (i := 1) rfl 2 rfl dL_holds_369 ?_
  refine cg_iconst C (x := nI 0) rfl dL_holds_370 ?_
  obtain ⟨mc94, ms95, hm_1, hm_2, h⟩ := h
  refine cg_callsWi C (tw_L_did l hlt mc94 ms95 x1 ((nI 0)) S dp h) cc_L_205 rfl ⟨by decide, by decide⟩ ⟨hm_1, hm_2⟩ rfl (Nat.le_of_ble_eq_true rfl) dL_holds_371 (fun r_96 S_96 h => ?_)
  refine cg_iload C 0 rfl dL_holds_374 ?_
  refine cg_icmp_ne C 383 (by decide) dL_holds_376 (fun c_ => ?_) (fun c_ => ?_)
  · have h := h.1 c_
    refine cg_iconst C (x := nI 0) rfl dL_holds_383 ?_
    exact cg_sub [1, 2, 3, 4, 5, 6, 7, 8, 9, 10, 11, 12, 13, 14, 15, 16, 17, 18, 19] rfl (tbs_L_holds_384 C hX hbl hbA hL hlt hR116 x1 x2 x3 x4 x5 x6 x7 x8 x9 x10 x11 x12 x13 x14 x15 x16 x17 x19 ((nI 0)) (cd + mc94) (dd + ms95) S_96 h)
  · have h := h.2 c_
    refine cg_iconst C (x := nI 1) rfl dL_holds_379 ?_
    refine cg_goto C 384 (by decide) dL_holds_380 ?_
    exact cg_sub [1, 2, 3, 4, 5, 6, 7, 8, 9, 10, 11, 12, 13, 14, 15, 16, 17, 18, 19] rfl (tbs_L_holds_384 C hX hbl hbA hL hlt hR116 x1 x2 x3 x4 x5 x6 x7 x8 x9 x10 x11 x12 x13 x14 x15 x16 x17 x19 ((nI 1)) (cd + mc94) (dd + ms95) S_96 h)
set_option maxRecDepth 20000 in
theorem tbs_L_holds_313 {mc ms : Nat} (C : cC p s m args meth c cL_holds 24 (some .boolean) A D Y tp dp RL) {sc L : Nat} {xs : Nat → Int32} (hX : va_X sc L xs s s.heap) (hbl : sc < s.heap.size) (hbA : ¬ A sc) (hL : L ≤ 260) (hlt : l.stackTraces = false) {post : Int32 → cS → Prop} {R116 : Nat → Nat → Nat → Nat → Nat → Nat → Nat → Nat → Nat → Nat → Nat → Nat → Nat → Nat → Nat → Nat → Nat → Int32 → Int32 → Nat → Nat → cS → Prop} (hR116 : ∀ (x1 : Nat) (x2 : Nat) (x3 : Nat) (x4 : Nat) (x5 : Nat) (x6 : Nat) (x7 : Nat) (x8 : Nat) (x9 : Nat) (x10 : Nat) (x11 : Nat) (x12 : Nat) (x13 : Nat) (x14 : Nat) (x15 : Nat) (x16 : Nat) (x17 : Nat) (x18 : Int32) (x19 : Int32) (cd dd : Nat) (S : cS), R116 x1 x2 x3 x4 x5 x6 x7 x8 x9 x10 x11 x12 x13 x14 x15 x16 x17 x18 x19 cd dd S → cG p l e (cRm 14 mc ms 346) s m args below meth c A D Y 24 (MQ below (cQi post D Y A) args s mc ms A) cd dd 116 [(0, .ref sc), (1, .ref x1), (2, .ref x2), (3, .ref x3), (4, .ref x4), (5, .ref x5), (6, .ref x6), (7, .ref x7), (8, .ref x8), (9, .ref x9), (10, .ref x10), (11, .ref x11), (12, .ref x12), (13, .ref x13), (14, .ref x14), (15, .ref x15), (16, .ref x16), (17, .ref x17), (18, .int x18), (19, .int x19)] [] S) (x1 : Nat) (x2 : Nat) (x3 : Nat) (x4 : Nat) (x5 : Nat) (x6 : Nat) (x7 : Nat) (x8 : Nat) (x9 : Nat) (x10 : Nat) (x11 : Nat) (x12 : Nat) (x13 : Nat) (x14 : Nat) (x15 : Nat) (x16 : Nat) (x17 : Nat) (x19 : Int32) (t0 : Int32) (cd dd : Nat) (S : cS) (h : ks_L_holds_313 post dp mc ms L R116 x1 x2 x3 x4 x5 x6 x7 x8 x9 x10 x11 x12 x13 x14 x15 x16 x17 x19 t0 cd dd S) : cG p l e (cRm 14 mc ms 346) s m args below meth c A D Y 24 (MQ below (cQi post D Y A) args s mc ms A) cd dd 313 [(0, .ref sc), (1, .ref x1), (2, .ref x2), (3, .ref x3), (4, .ref x4), (5, .ref x5), (6, .ref x6), (7, .ref x7), (8, .ref x8), (9, .ref x9), (10, .ref x10), (11, .ref x11), (12, .ref x12), (13, .ref x13), (14, .ref x14), (15, .ref x15), (16, .ref x16), (17, .ref x17), (19, .int x19)] [.int t0] S := by
  unfold ks_L_holds_313 at h
  refine cg_istore C (lv' := [(18, .int t0), (0, .ref sc), (1, .ref x1), (2, .ref x2), (3, .ref x3), (4, .ref x4), (5, .ref x5), (6, .ref x6), (7, .ref x7), (8, .ref x8), (9, .ref x9), (10, .ref x10), (11, .ref x11), (12, .ref x12), (13, .ref x13), (14, .ref x14), (15, .ref x15), (16, .ref x16), (17, .ref x17), (19, .int x19)]) (Nat.le_of_ble_eq_true rfl) rfl dL_holds_313 ?_
  refine cg_goto C 796 (by decide) dL_holds_315 ?_
  exact cg_sub [1, 2, 3, 4, 5, 6, 7, 8, 9, 10, 11, 12, 13, 14, 15, 16, 17, 18, 0, 19] rfl (tbs_L_holds_796 C hX hbl hbA hL hlt hR116 x1 x2 x3 x4 x5 x6 x7 x8 x9 x10 x11 x12 x13 x14 x15 x16 x17 t0 x19 cd dd S h)
set_option maxRecDepth 20000 in
theorem tbs_L_holds_292 {mc ms : Nat} (C : cC p s m args meth c cL_holds 24 (some .boolean) A D Y tp dp RL) {sc L : Nat} {xs : Nat → Int32} (hX : va_X sc L xs s s.heap) (hbl : sc < s.heap.size) (hbA : ¬ A sc) (hL : L ≤ 260) (hlt : l.stackTraces = false) {post : Int32 → cS → Prop} {R116 : Nat → Nat → Nat → Nat → Nat → Nat → Nat → Nat → Nat → Nat → Nat → Nat → Nat → Nat → Nat → Nat → Nat → Int32 → Int32 → Nat → Nat → cS → Prop} (hR116 : ∀ (x1 : Nat) (x2 : Nat) (x3 : Nat) (x4 : Nat) (x5 : Nat) (x6 : Nat) (x7 : Nat) (x8 : Nat) (x9 : Nat) (x10 : Nat) (x11 : Nat) (x12 : Nat) (x13 : Nat) (x14 : Nat) (x15 : Nat) (x16 : Nat) (x17 : Nat) (x18 : Int32) (x19 : Int32) (cd dd : Nat) (S : cS), R116 x1 x2 x3 x4 x5 x6 x7 x8 x9 x10 x11 x12 x13 x14 x15 x16 x17 x18 x19 cd dd S → cG p l e (cRm 14 mc ms 346) s m args below meth c A D Y 24 (MQ below (cQi post D Y A) args s mc ms A) cd dd 116 [(0, .ref sc), (1, .ref x1), (2, .ref x2), (3, .ref x3), (4, .ref x4), (5, .ref x5), (6, .ref x6), (7, .ref x7), (8, .ref x8), (9, .ref x9), (10, .ref x10), (11, .ref x11), (12, .ref x12), (13, .ref x13), (14, .ref x14), (15, .ref x15), (16, .ref x16), (17, .ref x17), (18, .int x18), (19, .int x19)] [] S) (x1 : Nat) (x2 : Nat) (x3 : Nat) (x4 : Nat) (x5 : Nat) (x6 : Nat) (x7 : Nat) (x8 : Nat) (x9 : Nat) (x10 : Nat) (x11 : Nat) (x12 : Nat) (x13 : Nat) (x14 : Nat) (x15 : Nat) (x16 : Nat) (x17 : Nat) (x19 : Int32) (x20 : Int32) (t0 : Int32) (cd dd : Nat) (S : cS) (h : ks_L_holds_292 post dp mc ms L R116 x1 x2 x3 x4 x5 x6 x7 x8 x9 x10 x11 x12 x13 x14 x15 x16 x17 x19 x20 t0 cd dd S) : cG p l e (cRm 14 mc ms 346) s m args below meth c A D Y 24 (MQ below (cQi post D Y A) args s mc ms A) cd dd 292 [(0, .ref sc), (1, .ref x1), (2, .ref x2), (3, .ref x3), (4, .ref x4), (5, .ref x5), (6, .ref x6), (7, .ref x7), (8, .ref x8), (9, .ref x9), (10, .ref x10), (11, .ref x11), (12, .ref x12), (13, .ref x13), (14, .ref x14), (15, .ref x15), (16, .ref x16), (17, .ref x17), (19, .int x19), (20, .int x20)] [.int t0] S := by
  unfold ks_L_holds_292 at h
  refine cg_istore C (lv' := [(23, .int t0), (0, .ref sc), (1, .ref x1), (2, .ref x2), (3, .ref x3), (4, .ref x4), (5, .ref x5), (6, .ref x6), (7, .ref x7), (8, .ref x8), (9, .ref x9), (10, .ref x10), (11, .ref x11), (12, .ref x12), (13, .ref x13), (14, .ref x14), (15, .ref x15), (16, .ref x16), (17, .ref x17), (19, .int x19), (20, .int x20)]) (Nat.le_of_ble_eq_true rfl) rfl dL_holds_292 ?_
  refine cg_aload_n C (i := 1) rfl 2 rfl dL_holds_294 ?_
  refine cg_iload C 20 rfl dL_holds_295 ?_
  refine cg_bipush C (x := nI 10) rfl dL_holds_297 ?_
  refine cg_irem C (by decide) dL_holds_299 ?_
  obtain ⟨mc98, ms99, hm_1, hm_2, h⟩ := h
  refine cg_callsWi C (tw_L_deleted l hlt mc98 ms99 x1 ((x20 - x20 / ((nI 10)) * ((nI 10)))) S dp h) cc_L_278 rfl ⟨by decide, by decide⟩ ⟨hm_1, hm_2⟩ rfl (Nat.le_of_ble_eq_true rfl) dL_holds_300 (fun r_100 S_100 h => ?_)
  refine cg_iload C 0 rfl dL_holds_303 ?_
  refine cg_icmp_ne C 312 (by decide) dL_holds_305 (fun c_ => ?_) (fun c_ => ?_)
  · have h := h.1 c_
    refine cg_iconst C (x := nI 0) rfl dL_holds_312 ?_
    exact cg_sub [1, 2, 3, 4, 5, 6, 7, 8, 9, 10, 11, 12, 13, 14, 15, 16, 17, 18, 19] rfl (tbs_L_holds_313 C hX hbl hbA hL hlt hR116 x1 x2 x3 x4 x5 x6 x7 x8 x9 x10 x11 x12 x13 x14 x15 x16 x17 x19 ((nI 0)) (cd + mc98) (dd + ms99) S_100 h)
  · have h := h.2 c_
    refine cg_iconst C (x := nI 1) rfl dL_holds_308 ?_
    refine cg_goto C 313 (by decide) dL_holds_309 ?_
    exact cg_sub [1, 2, 3, 4, 5, 6, 7, 8, 9, 10, 11, 12, 13, 14, 15, 16, 17, 18, 19] rfl (tbs_L_holds_313 C hX hbl hbA hL hlt hR116 x1 x2 x3 x4 x5 x6 x7 x8 x9 x10 x11 x12 x13 x14 x15 x16 x17 x19 ((nI 1)) (cd + mc98) (dd + ms99) S_100 h)
set_option maxRecDepth 20000 in
theorem tbs_L_holds_243 {mc ms : Nat} (C : cC p s m args meth c cL_holds 24 (some .boolean) A D Y tp dp RL) {sc L : Nat} {xs : Nat → Int32} (hX : va_X sc L xs s s.heap) (hbl : sc < s.heap.size) (hbA : ¬ A sc) (hL : L ≤ 260) (hlt : l.stackTraces = false) {post : Int32 → cS → Prop} {R116 : Nat → Nat → Nat → Nat → Nat → Nat → Nat → Nat → Nat → Nat → Nat → Nat → Nat → Nat → Nat → Nat → Nat → Int32 → Int32 → Nat → Nat → cS → Prop} (hR116 : ∀ (x1 : Nat) (x2 : Nat) (x3 : Nat) (x4 : Nat) (x5 : Nat) (x6 : Nat) (x7 : Nat) (x8 : Nat) (x9 : Nat) (x10 : Nat) (x11 : Nat) (x12 : Nat) (x13 : Nat) (x14 : Nat) (x15 : Nat) (x16 : Nat) (x17 : Nat) (x18 : Int32) (x19 : Int32) (cd dd : Nat) (S : cS), R116 x1 x2 x3 x4 x5 x6 x7 x8 x9 x10 x11 x12 x13 x14 x15 x16 x17 x18 x19 cd dd S → cG p l e (cRm 14 mc ms 346) s m args below meth c A D Y 24 (MQ below (cQi post D Y A) args s mc ms A) cd dd 116 [(0, .ref sc), (1, .ref x1), (2, .ref x2), (3, .ref x3), (4, .ref x4), (5, .ref x5), (6, .ref x6), (7, .ref x7), (8, .ref x8), (9, .ref x9), (10, .ref x10), (11, .ref x11), (12, .ref x12), (13, .ref x13), (14, .ref x14), (15, .ref x15), (16, .ref x16), (17, .ref x17), (18, .int x18), (19, .int x19)] [] S) (x1 : Nat) (x2 : Nat) (x3 : Nat) (x4 : Nat) (x5 : Nat) (x6 : Nat) (x7 : Nat) (x8 : Nat) (x9 : Nat) (x10 : Nat) (x11 : Nat) (x12 : Nat) (x13 : Nat) (x14 : Nat) (x15 : Nat) (x16 : Nat) (x17 : Nat) (x18 : Int32) (x19 : Int32) (x20 : Int32) (x21 : Int32) (x22 : Int32) (cd dd : Nat) (S : cS) (h : ks_L_holds_243 post dp mc ms L R116 x1 x2 x3 x4 x5 x6 x7 x8 x9 x10 x11 x12 x13 x14 x15 x16 x17 x18 x19 x20 x21 x22 cd dd S) : cG p l e (cRm 14 mc ms 346) s m args below meth c A D Y 24 (MQ below (cQi post D Y A) args s mc ms A) cd dd 243 [(0, .ref sc), (1, .ref x1), (2, .ref x2), (3, .ref x3), (4, .ref x4), (5, .ref x5), (6, .ref x6), (7, .ref x7), (8, .ref x8), (9, .ref x9), (10, .ref x10), (11, .ref x11), (12, .ref x12), (13, .ref x13), (14, .ref x14), (15, .ref x15), (16, .ref x16), (17, .ref x17), (18, .int x18), (19, .int x19), (20, .int x20), (21, .int x21), (22, .int x22)] [] S := by
  unfold ks_L_holds_243 at h
  refine cg_iload C 21 rfl dL_holds_243 ?_
  refine cg_bipush C (x := nI 9) rfl dL_holds_245 ?_
  refine cg_icmp_ne C 318 (by decide) dL_holds_247 (fun c_ => ?_) (fun c_ => ?_)
  · have h := h.1 c_
    refine cg_iload C 21 rfl dL_holds_318 ?_
    refine cg_bipush C (x := nI 14) rfl dL_holds_320 ?_
    refine cg_icmp_ge C 389 (by decide) dL_holds_322 (fun c_ => ?_) (fun c_ => ?_)
    · have h := h.1 c_
      exact cg_sub [0, 1, 2, 3, 4, 5, 6, 7, 8, 9, 10, 11, 12, 13, 14, 15, 16, 17, 18, 19, 20, 21, 22] rfl (tbs_L_holds_389 C hX hbl hbA hL hlt hR116 x1 x2 x3 x4 x5 x6 x7 x8 x9 x10 x11 x12 x13 x14 x15 x16 x17 x18 x19 x20 x21 x22 cd dd S h)
    · have h := h.2 c_
      refine cg_iload C 22 rfl dL_holds_325 ?_
      refine cg_if_eq C 389 (by decide) dL_holds_327 (fun c_ => ?_) (fun c_ => ?_)
      · have h := h.1 c_
        exact cg_sub [0, 1, 2, 3, 4, 5, 6, 7, 8, 9, 10, 11, 12, 13, 14, 15, 16, 17, 18, 19, 20, 21, 22] rfl (tbs_L_holds_389 C hX hbl hbA hL hlt hR116 x1 x2 x3 x4 x5 x6 x7 x8 x9 x10 x11 x12 x13 x14 x15 x16 x17 x18 x19 x20 x21 x22 cd dd S h)
      · have h := h.2 c_
        refine cg_aload C 17 rfl dL_holds_330 ?_
        refine cg_bipush C (x := nI 6) rfl dL_holds_332 ?_
        obtain ⟨hc_334, h⟩ := h
        refine cg_ialoadR C hc_334 dL_holds_334 ?_
        refine cg_iconst C (x := nI 1) rfl dL_holds_335 ?_
        refine cg_icmp_ne C 344 (by decide) dL_holds_336 (fun c_ => ?_) (fun c_ => ?_)
        · have h := h.1 c_
          refine cg_aload_n C (i := 2) rfl 2 rfl dL_holds_344 ?_
          refine cg_aload_n C (i := 3) rfl 3 rfl dL_holds_345 ?_
          refine cg_aload C 4 rfl dL_holds_346 ?_
          refine cg_aload C 5 rfl dL_holds_348 ?_
          refine cg_aload C 6 rfl dL_holds_350 ?_
          refine cg_aload C 7 rfl dL_holds_352 ?_
          refine cg_aload C 8 rfl dL_holds_354 ?_
          refine cg_aload C 10 rfl dL_holds_356 ?_
          refine cg_aload C 11 rfl dL_holds_358 ?_
          refine cg_aload C 12 rfl dL_holds_360 ?_
          refine cg_aload C 17 rfl dL_holds_362 ?_
          obtain ⟨hb_364, h⟩ := h
          refine cg_callsi C (t_L_flushed l x2 x3 x4 x5 x6 x7 x8 x10 x11 x12 x17 S dp h) cc_L_245 rfl ⟨by decide, by decide⟩ hb_364 rfl (Nat.le_of_ble_eq_true rfl) dL_holds_364 (fun r_93 S_93 h => ?_)
          simp only [Nat.add_zero]
          exact cg_sub [0, 1, 2, 3, 4, 5, 6, 7, 8, 9, 10, 11, 12, 13, 14, 15, 16, 17, 19] rfl (tbs_L_holds_367 C hX hbl hbA hL hlt hR116 x1 x2 x3 x4 x5 x6 x7 x8 x9 x10 x11 x12 x13 x14 x15 x16 x17 x19 r_93 cd dd S_93 h)
        · have h := h.2 c_
          refine cg_bipush C (x := (-7)) rfl dL_holds_339 ?_
          refine cg_goto C 367 (by decide) dL_holds_341 ?_
          exact cg_sub [0, 1, 2, 3, 4, 5, 6, 7, 8, 9, 10, 11, 12, 13, 14, 15, 16, 17, 19] rfl (tbs_L_holds_367 C hX hbl hbA hL hlt hR116 x1 x2 x3 x4 x5 x6 x7 x8 x9 x10 x11 x12 x13 x14 x15 x16 x17 x19 (((-7))) cd dd S h)
  · have h := h.2 c_
    refine cg_aload C 17 rfl dL_holds_250 ?_
    refine cg_bipush C (x := nI 6) rfl dL_holds_252 ?_
    obtain ⟨hc_254, h⟩ := h
    refine cg_ialoadR C hc_254 dL_holds_254 ?_
    refine cg_iconst C (x := nI 1) rfl dL_holds_255 ?_
    refine cg_icmp_ne C 264 (by decide) dL_holds_256 (fun c_ => ?_) (fun c_ => ?_)
    · have h := h.1 c_
      refine cg_aload_n C (i := 2) rfl 2 rfl dL_holds_264 ?_
      refine cg_aload_n C (i := 3) rfl 3 rfl dL_holds_265 ?_
      refine cg_aload C 4 rfl dL_holds_266 ?_
      refine cg_aload C 5 rfl dL_holds_268 ?_
      refine cg_aload C 6 rfl dL_holds_270 ?_
      refine cg_aload C 8 rfl dL_holds_272 ?_
      refine cg_aload C 17 rfl dL_holds_274 ?_
      refine cg_iload C 20 rfl dL_holds_276 ?_
      refine cg_bipush C (x := nI 10) rfl dL_holds_278 ?_
      refine cg_irem C (by decide) dL_holds_280 ?_
      obtain ⟨hb_281, h⟩ := h
      refine cg_callsi C (t_L_deletes l x2 x3 x4 x5 x6 x8 x17 ((x20 - x20 / ((nI 10)) * ((nI 10)))) S dp h) cc_L_241 rfl ⟨by decide, by decide⟩ hb_281 rfl (Nat.le_of_ble_eq_true rfl) dL_holds_281 (fun r_97 S_97 h => ?_)
      simp only [Nat.add_zero]
      refine cg_if_le C 291 (by decide) dL_holds_284 (fun c_ => ?_) (fun c_ => ?_)
      · have h := h.1 c_
        refine cg_iconst C (x := nI 0) rfl dL_holds_291 ?_
        exact cg_sub [0, 1, 2, 3, 4, 5, 6, 7, 8, 9, 10, 11, 12, 13, 14, 15, 16, 17, 19, 20] rfl (tbs_L_holds_292 C hX hbl hbA hL hlt hR116 x1 x2 x3 x4 x5 x6 x7 x8 x9 x10 x11 x12 x13 x14 x15 x16 x17 x19 x20 ((nI 0)) cd dd S_97 h)
      · have h := h.2 c_
        refine cg_iconst C (x := nI 1) rfl dL_holds_287 ?_
        refine cg_goto C 292 (by decide) dL_holds_288 ?_
        exact cg_sub [0, 1, 2, 3, 4, 5, 6, 7, 8, 9, 10, 11, 12, 13, 14, 15, 16, 17, 19, 20] rfl (tbs_L_holds_292 C hX hbl hbA hL hlt hR116 x1 x2 x3 x4 x5 x6 x7 x8 x9 x10 x11 x12 x13 x14 x15 x16 x17 x19 x20 ((nI 1)) cd dd S_97 h)
    · have h := h.2 c_
      refine cg_bipush C (x := (-7)) rfl dL_holds_259 ?_
      refine cg_goto C 292 (by decide) dL_holds_261 ?_
      exact cg_sub [0, 1, 2, 3, 4, 5, 6, 7, 8, 9, 10, 11, 12, 13, 14, 15, 16, 17, 19, 20] rfl (tbs_L_holds_292 C hX hbl hbA hL hlt hR116 x1 x2 x3 x4 x5 x6 x7 x8 x9 x10 x11 x12 x13 x14 x15 x16 x17 x19 x20 (((-7))) cd dd S h)
set_option maxRecDepth 20000 in
theorem tbs_L_holds_193 {mc ms : Nat} (C : cC p s m args meth c cL_holds 24 (some .boolean) A D Y tp dp RL) {sc L : Nat} {xs : Nat → Int32} (hX : va_X sc L xs s s.heap) (hbl : sc < s.heap.size) (hbA : ¬ A sc) (hL : L ≤ 260) (hlt : l.stackTraces = false) {post : Int32 → cS → Prop} {R116 : Nat → Nat → Nat → Nat → Nat → Nat → Nat → Nat → Nat → Nat → Nat → Nat → Nat → Nat → Nat → Nat → Nat → Int32 → Int32 → Nat → Nat → cS → Prop} (hR116 : ∀ (x1 : Nat) (x2 : Nat) (x3 : Nat) (x4 : Nat) (x5 : Nat) (x6 : Nat) (x7 : Nat) (x8 : Nat) (x9 : Nat) (x10 : Nat) (x11 : Nat) (x12 : Nat) (x13 : Nat) (x14 : Nat) (x15 : Nat) (x16 : Nat) (x17 : Nat) (x18 : Int32) (x19 : Int32) (cd dd : Nat) (S : cS), R116 x1 x2 x3 x4 x5 x6 x7 x8 x9 x10 x11 x12 x13 x14 x15 x16 x17 x18 x19 cd dd S → cG p l e (cRm 14 mc ms 346) s m args below meth c A D Y 24 (MQ below (cQi post D Y A) args s mc ms A) cd dd 116 [(0, .ref sc), (1, .ref x1), (2, .ref x2), (3, .ref x3), (4, .ref x4), (5, .ref x5), (6, .ref x6), (7, .ref x7), (8, .ref x8), (9, .ref x9), (10, .ref x10), (11, .ref x11), (12, .ref x12), (13, .ref x13), (14, .ref x14), (15, .ref x15), (16, .ref x16), (17, .ref x17), (18, .int x18), (19, .int x19)] [] S) (x1 : Nat) (x2 : Nat) (x3 : Nat) (x4 : Nat) (x5 : Nat) (x6 : Nat) (x7 : Nat) (x8 : Nat) (x9 : Nat) (x10 : Nat) (x11 : Nat) (x12 : Nat) (x13 : Nat) (x14 : Nat) (x15 : Nat) (x16 : Nat) (x17 : Nat) (x18 : Int32) (x19 : Int32) (x20 : Int32) (x21 : Int32) (t0 : Int32) (cd dd : Nat) (S : cS) (h : ks_L_holds_193 post dp mc ms L R116 x1 x2 x3 x4 x5 x6 x7 x8 x9 x10 x11 x12 x13 x14 x15 x16 x17 x18 x19 x20 x21 t0 cd dd S) : cG p l e (cRm 14 mc ms 346) s m args below meth c A D Y 24 (MQ below (cQi post D Y A) args s mc ms A) cd dd 193 [(0, .ref sc), (1, .ref x1), (2, .ref x2), (3, .ref x3), (4, .ref x4), (5, .ref x5), (6, .ref x6), (7, .ref x7), (8, .ref x8), (9, .ref x9), (10, .ref x10), (11, .ref x11), (12, .ref x12), (13, .ref x13), (14, .ref x14), (15, .ref x15), (16, .ref x16), (17, .ref x17), (18, .int x18), (19, .int x19), (20, .int x20), (21, .int x21)] [.int t0] S := by
  unfold ks_L_holds_193 at h
  refine cg_istore C (lv' := [(22, .int t0), (0, .ref sc), (1, .ref x1), (2, .ref x2), (3, .ref x3), (4, .ref x4), (5, .ref x5), (6, .ref x6), (7, .ref x7), (8, .ref x8), (9, .ref x9), (10, .ref x10), (11, .ref x11), (12, .ref x12), (13, .ref x13), (14, .ref x14), (15, .ref x15), (16, .ref x16), (17, .ref x17), (18, .int x18), (19, .int x19), (20, .int x20), (21, .int x21)]) (Nat.le_of_ble_eq_true rfl) rfl dL_holds_193 ?_
  refine cg_iload C 22 rfl dL_holds_195 ?_
  refine cg_bipush C (x := nI 9) rfl dL_holds_197 ?_
  refine cg_icmp_ge C 243 (by decide) dL_holds_199 (fun c_ => ?_) (fun c_ => ?_)
  · have h := h.1 c_
    exact cg_sub [1, 2, 3, 4, 5, 6, 7, 8, 9, 10, 11, 12, 13, 14, 15, 16, 17, 18, 19, 20, 21, 22, 0] rfl (tbs_L_holds_243 C hX hbl hbA hL hlt hR116 x1 x2 x3 x4 x5 x6 x7 x8 x9 x10 x11 x12 x13 x14 x15 x16 x17 x18 x19 x20 x21 t0 cd dd S h)
  · have h := h.2 c_
    refine cg_iload C 0 rfl dL_holds_202 ?_
    refine cg_if_eq C 243 (by decide) dL_holds_204 (fun c_ => ?_) (fun c_ => ?_)
    · have h := h.1 c_
      exact cg_sub [1, 2, 3, 4, 5, 6, 7, 8, 9, 10, 11, 12, 13, 14, 15, 16, 17, 18, 19, 20, 21, 22, 0] rfl (tbs_L_holds_243 C hX hbl hbA hL hlt hR116 x1 x2 x3 x4 x5 x6 x7 x8 x9 x10 x11 x12 x13 x14 x15 x16 x17 x18 x19 x20 x21 t0 cd dd S h)
    · have h := h.2 c_
      refine cg_aload_n C (i := 1) rfl 2 rfl dL_holds_207 ?_
      refine cg_aload_n C (i := 2) rfl 3 rfl dL_holds_208 ?_
      refine cg_aload_n C (i := 3) rfl 4 rfl dL_holds_209 ?_
      refine cg_aload C 5 rfl dL_holds_210 ?_
      refine cg_aload C 6 rfl dL_holds_212 ?_
      refine cg_aload C 7 rfl dL_holds_214 ?_
      refine cg_aload C 9 rfl dL_holds_216 ?_
      refine cg_aload C 18 rfl dL_holds_218 ?_
      refine cg_iload C 21 rfl dL_holds_220 ?_
      refine cg_aload_n C (i := 0) rfl 1 rfl dL_holds_222 ?_
      refine cg_iconst C (x := nI 3) rfl dL_holds_223 ?_
      refine cg_iload C 20 rfl dL_holds_224 ?_
      refine cg_imul C dL_holds_226 ?_
      refine cg_iconst C (x := nI 2) rfl dL_holds_227 ?_
      refine cg_iadd C dL_holds_228 ?_
      refine cg_ldcw C (x := (10000000)) ckw_L_269 dL_holds_229 ?_
      obtain ⟨hc_232, h⟩ := h
      obtain ⟨hb_232, h⟩ := h
      refine cg_from C hX hbl hbA hL hc_232.1 hc_232.2 cc_L_270 ⟨by decide, by decide⟩ hb_232 (Nat.le_of_ble_eq_true rfl) dL_holds_232 (fun r101 h1_ h2_ => ?_)
      have h := h r101 h1_ h2_
      obtain ⟨mc102, ms103, hm_1, hm_2, h⟩ := h
      refine cg_callsi C (t_L_isAdded l hlt mc102 ms103 x1 x2 x3 x4 x5 x6 x8 x17 x20 r101 S dp h) cc_L_274 rfl ⟨by decide, by decide⟩ ⟨hm_1, hm_2⟩ rfl (Nat.le_of_ble_eq_true rfl) dL_holds_235 (fun r_104 S_104 h => ?_)
      refine cg_istore C (lv' := [(18, .int r_104), (22, .int t0), (0, .ref sc), (1, .ref x1), (2, .ref x2), (3, .ref x3), (4, .ref x4), (5, .ref x5), (6, .ref x6), (7, .ref x7), (8, .ref x8), (9, .ref x9), (10, .ref x10), (11, .ref x11), (12, .ref x12), (13, .ref x13), (14, .ref x14), (15, .ref x15), (16, .ref x16), (17, .ref x17), (19, .int x19), (20, .int x20), (21, .int x21)]) (Nat.le_of_ble_eq_true rfl) rfl dL_holds_238 ?_
      refine cg_goto C 796 (by decide) dL_holds_240 ?_
      exact cg_sub [2, 3, 4, 5, 6, 7, 8, 9, 10, 11, 12, 13, 14, 15, 16, 17, 18, 19, 0, 20] rfl (tbs_L_holds_796 C hX hbl hbA hL hlt hR116 x1 x2 x3 x4 x5 x6 x7 x8 x9 x10 x11 x12 x13 x14 x15 x16 x17 r_104 x19 (cd + mc102) (dd + ms103) S_104 h)
set_option maxRecDepth 20000 in
theorem tbs_L_holds_192 {mc ms : Nat} (C : cC p s m args meth c cL_holds 24 (some .boolean) A D Y tp dp RL) {sc L : Nat} {xs : Nat → Int32} (hX : va_X sc L xs s s.heap) (hbl : sc < s.heap.size) (hbA : ¬ A sc) (hL : L ≤ 260) (hlt : l.stackTraces = false) {post : Int32 → cS → Prop} {R116 : Nat → Nat → Nat → Nat → Nat → Nat → Nat → Nat → Nat → Nat → Nat → Nat → Nat → Nat → Nat → Nat → Nat → Int32 → Int32 → Nat → Nat → cS → Prop} (hR116 : ∀ (x1 : Nat) (x2 : Nat) (x3 : Nat) (x4 : Nat) (x5 : Nat) (x6 : Nat) (x7 : Nat) (x8 : Nat) (x9 : Nat) (x10 : Nat) (x11 : Nat) (x12 : Nat) (x13 : Nat) (x14 : Nat) (x15 : Nat) (x16 : Nat) (x17 : Nat) (x18 : Int32) (x19 : Int32) (cd dd : Nat) (S : cS), R116 x1 x2 x3 x4 x5 x6 x7 x8 x9 x10 x11 x12 x13 x14 x15 x16 x17 x18 x19 cd dd S → cG p l e (cRm 14 mc ms 346) s m args below meth c A D Y 24 (MQ below (cQi post D Y A) args s mc ms A) cd dd 116 [(0, .ref sc), (1, .ref x1), (2, .ref x2), (3, .ref x3), (4, .ref x4), (5, .ref x5), (6, .ref x6), (7, .ref x7), (8, .ref x8), (9, .ref x9), (10, .ref x10), (11, .ref x11), (12, .ref x12), (13, .ref x13), (14, .ref x14), (15, .ref x15), (16, .ref x16), (17, .ref x17), (18, .int x18), (19, .int x19)] [] S) (x1 : Nat) (x2 : Nat) (x3 : Nat) (x4 : Nat) (x5 : Nat) (x6 : Nat) (x7 : Nat) (x8 : Nat) (x9 : Nat) (x10 : Nat) (x11 : Nat) (x12 : Nat) (x13 : Nat) (x14 : Nat) (x15 : Nat) (x16 : Nat) (x17 : Nat) (x18 : Int32) (x19 : Int32) (x20 : Int32) (x21 : Int32) (cd dd : Nat) (S : cS) (h : ks_L_holds_192 post dp mc ms L R116 x1 x2 x3 x4 x5 x6 x7 x8 x9 x10 x11 x12 x13 x14 x15 x16 x17 x18 x19 x20 x21 cd dd S) : cG p l e (cRm 14 mc ms 346) s m args below meth c A D Y 24 (MQ below (cQi post D Y A) args s mc ms A) cd dd 192 [(0, .ref sc), (1, .ref x1), (2, .ref x2), (3, .ref x3), (4, .ref x4), (5, .ref x5), (6, .ref x6), (7, .ref x7), (8, .ref x8), (9, .ref x9), (10, .ref x10), (11, .ref x11), (12, .ref x12), (13, .ref x13), (14, .ref x14), (15, .ref x15), (16, .ref x16), (17, .ref x17), (18, .int x18), (19, .int x19), (20, .int x20), (21, .int x21)] [] S := by
  unfold ks_L_holds_192 at h
  refine cg_iconst C (x := nI 0) rfl dL_holds_192 ?_
  exact cg_sub [0, 1, 2, 3, 4, 5, 6, 7, 8, 9, 10, 11, 12, 13, 14, 15, 16, 17, 18, 19, 20, 21] rfl (tbs_L_holds_193 C hX hbl hbA hL hlt hR116 x1 x2 x3 x4 x5 x6 x7 x8 x9 x10 x11 x12 x13 x14 x15 x16 x17 x18 x19 x20 x21 ((nI 0)) cd dd S h)
set_option maxRecDepth 20000 in
theorem tbs_L_holds_163 {mc ms : Nat} (C : cC p s m args meth c cL_holds 24 (some .boolean) A D Y tp dp RL) {sc L : Nat} {xs : Nat → Int32} (hX : va_X sc L xs s s.heap) (hbl : sc < s.heap.size) (hbA : ¬ A sc) (hL : L ≤ 260) (hlt : l.stackTraces = false) {post : Int32 → cS → Prop} {R116 : Nat → Nat → Nat → Nat → Nat → Nat → Nat → Nat → Nat → Nat → Nat → Nat → Nat → Nat → Nat → Nat → Nat → Int32 → Int32 → Nat → Nat → cS → Prop} (hR116 : ∀ (x1 : Nat) (x2 : Nat) (x3 : Nat) (x4 : Nat) (x5 : Nat) (x6 : Nat) (x7 : Nat) (x8 : Nat) (x9 : Nat) (x10 : Nat) (x11 : Nat) (x12 : Nat) (x13 : Nat) (x14 : Nat) (x15 : Nat) (x16 : Nat) (x17 : Nat) (x18 : Int32) (x19 : Int32) (cd dd : Nat) (S : cS), R116 x1 x2 x3 x4 x5 x6 x7 x8 x9 x10 x11 x12 x13 x14 x15 x16 x17 x18 x19 cd dd S → cG p l e (cRm 14 mc ms 346) s m args below meth c A D Y 24 (MQ below (cQi post D Y A) args s mc ms A) cd dd 116 [(0, .ref sc), (1, .ref x1), (2, .ref x2), (3, .ref x3), (4, .ref x4), (5, .ref x5), (6, .ref x6), (7, .ref x7), (8, .ref x8), (9, .ref x9), (10, .ref x10), (11, .ref x11), (12, .ref x12), (13, .ref x13), (14, .ref x14), (15, .ref x15), (16, .ref x16), (17, .ref x17), (18, .int x18), (19, .int x19)] [] S) (x1 : Nat) (x2 : Nat) (x3 : Nat) (x4 : Nat) (x5 : Nat) (x6 : Nat) (x7 : Nat) (x8 : Nat) (x9 : Nat) (x10 : Nat) (x11 : Nat) (x12 : Nat) (x13 : Nat) (x14 : Nat) (x15 : Nat) (x16 : Nat) (x17 : Nat) (x18 : Int32) (x19 : Int32) (x20 : Int32) (t0 : Int32) (cd dd : Nat) (S : cS) (h : ks_L_holds_163 post dp mc ms L R116 x1 x2 x3 x4 x5 x6 x7 x8 x9 x10 x11 x12 x13 x14 x15 x16 x17 x18 x19 x20 t0 cd dd S) : cG p l e (cRm 14 mc ms 346) s m args below meth c A D Y 24 (MQ below (cQi post D Y A) args s mc ms A) cd dd 163 [(0, .ref sc), (1, .ref x1), (2, .ref x2), (3, .ref x3), (4, .ref x4), (5, .ref x5), (6, .ref x6), (7, .ref x7), (8, .ref x8), (9, .ref x9), (10, .ref x10), (11, .ref x11), (12, .ref x12), (13, .ref x13), (14, .ref x14), (15, .ref x15), (16, .ref x16), (17, .ref x17), (18, .int x18), (19, .int x19), (20, .int x20)] [.int t0] S := by
  unfold ks_L_holds_163 at h
  refine cg_istore C (lv' := [(21, .int t0), (0, .ref sc), (1, .ref x1), (2, .ref x2), (3, .ref x3), (4, .ref x4), (5, .ref x5), (6, .ref x6), (7, .ref x7), (8, .ref x8), (9, .ref x9), (10, .ref x10), (11, .ref x11), (12, .ref x12), (13, .ref x13), (14, .ref x14), (15, .ref x15), (16, .ref x16), (17, .ref x17), (18, .int x18), (19, .int x19), (20, .int x20)]) (Nat.le_of_ble_eq_true rfl) rfl dL_holds_163 ?_
  refine cg_aload C 18 rfl dL_holds_165 ?_
  refine cg_iconst C (x := nI 0) rfl dL_holds_167 ?_
  obtain ⟨hc_168, h⟩ := h
  refine cg_ialoadR C hc_168 dL_holds_168 ?_
  refine cg_aload C 18 rfl dL_holds_169 ?_
  refine cg_iconst C (x := nI 1) rfl dL_holds_171 ?_
  obtain ⟨hc_172, h⟩ := h
  refine cg_ialoadR C hc_172 dL_holds_172 ?_
  refine cg_iadd C dL_holds_173 ?_
  refine cg_bipush C (x := nI 60) rfl dL_holds_174 ?_
  refine cg_icmp_ge C 192 (by decide) dL_holds_176 (fun c_ => ?_) (fun c_ => ?_)
  · have h := h.1 c_
    exact cg_sub [1, 2, 3, 4, 5, 6, 7, 8, 9, 10, 11, 12, 13, 14, 15, 16, 17, 18, 19, 20, 21, 0] rfl (tbs_L_holds_192 C hX hbl hbA hL hlt hR116 x1 x2 x3 x4 x5 x6 x7 x8 x9 x10 x11 x12 x13 x14 x15 x16 x17 x18 x19 x20 t0 cd dd S h)
  · have h := h.2 c_
    refine cg_aload C 18 rfl dL_holds_179 ?_
    refine cg_iconst C (x := nI 2) rfl dL_holds_181 ?_
    obtain ⟨hc_182, h⟩ := h
    refine cg_ialoadR C hc_182 dL_holds_182 ?_
    refine cg_bipush C (x := nI 27) rfl dL_holds_183 ?_
    refine cg_icmp_ge C 192 (by decide) dL_holds_185 (fun c_ => ?_) (fun c_ => ?_)
    · have h := h.1 c_
      exact cg_sub [1, 2, 3, 4, 5, 6, 7, 8, 9, 10, 11, 12, 13, 14, 15, 16, 17, 18, 19, 20, 21, 0] rfl (tbs_L_holds_192 C hX hbl hbA hL hlt hR116 x1 x2 x3 x4 x5 x6 x7 x8 x9 x10 x11 x12 x13 x14 x15 x16 x17 x18 x19 x20 t0 cd dd S h)
    · have h := h.2 c_
      refine cg_iconst C (x := nI 1) rfl dL_holds_188 ?_
      refine cg_goto C 193 (by decide) dL_holds_189 ?_
      exact cg_sub [1, 2, 3, 4, 5, 6, 7, 8, 9, 10, 11, 12, 13, 14, 15, 16, 17, 18, 19, 20, 21, 0] rfl (tbs_L_holds_193 C hX hbl hbA hL hlt hR116 x1 x2 x3 x4 x5 x6 x7 x8 x9 x10 x11 x12 x13 x14 x15 x16 x17 x18 x19 x20 t0 ((nI 1)) cd dd S h)
set_option maxRecDepth 20000 in
theorem tbs_L_holds_116 {mc ms : Nat} (C : cC p s m args meth c cL_holds 24 (some .boolean) A D Y tp dp RL) {sc L : Nat} {xs : Nat → Int32} (hX : va_X sc L xs s s.heap) (hbl : sc < s.heap.size) (hbA : ¬ A sc) (hL : L ≤ 260) (hlt : l.stackTraces = false) {post : Int32 → cS → Prop} {R116 : Nat → Nat → Nat → Nat → Nat → Nat → Nat → Nat → Nat → Nat → Nat → Nat → Nat → Nat → Nat → Nat → Nat → Int32 → Int32 → Nat → Nat → cS → Prop} (hR116 : ∀ (x1 : Nat) (x2 : Nat) (x3 : Nat) (x4 : Nat) (x5 : Nat) (x6 : Nat) (x7 : Nat) (x8 : Nat) (x9 : Nat) (x10 : Nat) (x11 : Nat) (x12 : Nat) (x13 : Nat) (x14 : Nat) (x15 : Nat) (x16 : Nat) (x17 : Nat) (x18 : Int32) (x19 : Int32) (cd dd : Nat) (S : cS), R116 x1 x2 x3 x4 x5 x6 x7 x8 x9 x10 x11 x12 x13 x14 x15 x16 x17 x18 x19 cd dd S → cG p l e (cRm 14 mc ms 346) s m args below meth c A D Y 24 (MQ below (cQi post D Y A) args s mc ms A) cd dd 116 [(0, .ref sc), (1, .ref x1), (2, .ref x2), (3, .ref x3), (4, .ref x4), (5, .ref x5), (6, .ref x6), (7, .ref x7), (8, .ref x8), (9, .ref x9), (10, .ref x10), (11, .ref x11), (12, .ref x12), (13, .ref x13), (14, .ref x14), (15, .ref x15), (16, .ref x16), (17, .ref x17), (18, .int x18), (19, .int x19)] [] S) (x1 : Nat) (x2 : Nat) (x3 : Nat) (x4 : Nat) (x5 : Nat) (x6 : Nat) (x7 : Nat) (x8 : Nat) (x9 : Nat) (x10 : Nat) (x11 : Nat) (x12 : Nat) (x13 : Nat) (x14 : Nat) (x15 : Nat) (x16 : Nat) (x17 : Nat) (x18 : Int32) (x19 : Int32) (cd dd : Nat) (S : cS) (h : ks_L_holds_116 post dp mc ms L R116 x1 x2 x3 x4 x5 x6 x7 x8 x9 x10 x11 x12 x13 x14 x15 x16 x17 x18 x19 cd dd S) : cG p l e (cRm 14 mc ms 346) s m args below meth c A D Y 24 (MQ below (cQi post D Y A) args s mc ms A) cd dd 116 [(0, .ref sc), (1, .ref x1), (2, .ref x2), (3, .ref x3), (4, .ref x4), (5, .ref x5), (6, .ref x6), (7, .ref x7), (8, .ref x8), (9, .ref x9), (10, .ref x10), (11, .ref x11), (12, .ref x12), (13, .ref x13), (14, .ref x14), (15, .ref x15), (16, .ref x16), (17, .ref x17), (18, .int x18), (19, .int x19)] [] S := by
  unfold ks_L_holds_116 at h
  refine cg_iload C 19 rfl dL_holds_116 ?_
  refine cg_bipush C (x := nI 110) rfl dL_holds_118 ?_
  refine cg_icmp_ge C 848 (by decide) dL_holds_120 (fun c_ => ?_) (fun c_ => ?_)
  · have h := h.1 c_
    exact cg_sub [1, 2, 4, 5, 6, 8, 9, 10, 11, 12, 17, 18] rfl (tbs_L_holds_848 C hX hbl hbA hL hlt  x1 x2 x4 x5 x6 x8 x9 x10 x11 x12 x17 x18 cd dd S h)
  · have h := h.2 c_
    refine cg_iload C 18 rfl dL_holds_123 ?_
    refine cg_if_eq C 848 (by decide) dL_holds_125 (fun c_ => ?_) (fun c_ => ?_)
    · have h := h.1 c_
      exact cg_sub [1, 2, 4, 5, 6, 8, 9, 10, 11, 12, 17, 18] rfl (tbs_L_holds_848 C hX hbl hbA hL hlt  x1 x2 x4 x5 x6 x8 x9 x10 x11 x12 x17 x18 cd dd S h)
    · have h := h.2 c_
      refine cg_aload_n C (i := 0) rfl 0 rfl dL_holds_128 ?_
      refine cg_iconst C (x := nI 3) rfl dL_holds_129 ?_
      refine cg_iload C 19 rfl dL_holds_130 ?_
      refine cg_imul C dL_holds_132 ?_
      refine cg_iconst C (x := nI 1) rfl dL_holds_133 ?_
      refine cg_iadd C dL_holds_134 ?_
      refine cg_ldcw C (x := (10000000)) ckw_L_269 dL_holds_135 ?_
      obtain ⟨hc_138, h⟩ := h
      obtain ⟨hb_138, h⟩ := h
      refine cg_from C hX hbl hbA hL hc_138.1 hc_138.2 cc_L_270 ⟨by decide, by decide⟩ hb_138 (Nat.le_of_ble_eq_true rfl) dL_holds_138 (fun r61 h1_ h2_ => ?_)
      have h := h r61 h1_ h2_
      refine cg_istore C (lv' := [(20, .int r61), (0, .ref sc), (1, .ref x1), (2, .ref x2), (3, .ref x3), (4, .ref x4), (5, .ref x5), (6, .ref x6), (7, .ref x7), (8, .ref x8), (9, .ref x9), (10, .ref x10), (11, .ref x11), (12, .ref x12), (13, .ref x13), (14, .ref x14), (15, .ref x15), (16, .ref x16), (17, .ref x17), (18, .int x18), (19, .int x19)]) (Nat.le_of_ble_eq_true rfl) rfl dL_holds_141 ?_
      refine cg_iload C 20 rfl dL_holds_143 ?_
      refine cg_iconst C (x := nI 4) rfl dL_holds_145 ?_
      refine cg_icmp_ge C 153 (by decide) dL_holds_146 (fun c_ => ?_) (fun c_ => ?_)
      · have h := h.1 c_
        refine cg_aload_n C (i := 0) rfl 1 rfl dL_holds_153 ?_
        refine cg_iconst C (x := nI 3) rfl dL_holds_154 ?_
        refine cg_iload C 20 rfl dL_holds_155 ?_
        refine cg_imul C dL_holds_157 ?_
        refine cg_bipush C (x := nI 36) rfl dL_holds_158 ?_
        obtain ⟨hc_160, h⟩ := h
        obtain ⟨hb_160, h⟩ := h
        refine cg_from C hX hbl hbA hL hc_160.1 hc_160.2 cc_L_270 ⟨by decide, by decide⟩ hb_160 (Nat.le_of_ble_eq_true rfl) dL_holds_160 (fun r62 h1_ h2_ => ?_)
        have h := h r62 h1_ h2_
        exact cg_sub [1, 2, 3, 4, 5, 6, 7, 8, 9, 10, 11, 12, 13, 14, 15, 16, 17, 18, 19, 20, 0] rfl (tbs_L_holds_163 C hX hbl hbA hL hlt hR116 x1 x2 x3 x4 x5 x6 x7 x8 x9 x10 x11 x12 x13 x14 x15 x16 x17 x18 x19 r61 r62 cd dd S h)
      · have h := h.2 c_
        refine cg_iconst C (x := nI 0) rfl dL_holds_149 ?_
        refine cg_goto C 163 (by decide) dL_holds_150 ?_
        exact cg_sub [1, 2, 3, 4, 5, 6, 7, 8, 9, 10, 11, 12, 13, 14, 15, 16, 17, 18, 19, 20, 0] rfl (tbs_L_holds_163 C hX hbl hbA hL hlt hR116 x1 x2 x3 x4 x5 x6 x7 x8 x9 x10 x11 x12 x13 x14 x15 x16 x17 x18 x19 r61 ((nI 0)) cd dd S h)
set_option maxRecDepth 20000 in
theorem tls_L_holds_116 {mc ms : Nat} (C : cC p s m args meth c cL_holds 24 (some .boolean) A D Y tp dp RL) {sc L : Nat} {xs : Nat → Int32} (hX : va_X sc L xs s s.heap) (hbl : sc < s.heap.size) (hbA : ¬ A sc) (hL : L ≤ 260) (hlt : l.stackTraces = false) {post : Int32 → cS → Prop}   (x1 : Nat) (x2 : Nat) (x3 : Nat) (x4 : Nat) (x5 : Nat) (x6 : Nat) (x7 : Nat) (x8 : Nat) (x9 : Nat) (x10 : Nat) (x11 : Nat) (x12 : Nat) (x13 : Nat) (x14 : Nat) (x15 : Nat) (x16 : Nat) (x17 : Nat) (x18 : Int32) (x19 : Int32) (cd dd : Nat) (S : cS) (h : ks_L_holds_116L post dp mc ms L  x1 x2 x3 x4 x5 x6 x7 x8 x9 x10 x11 x12 x13 x14 x15 x16 x17 x18 x19 cd dd S) : cG p l e (cRm 14 mc ms 346) s m args below meth c A D Y 24 (MQ below (cQi post D Y A) args s mc ms A) cd dd 116 [(0, .ref sc), (1, .ref x1), (2, .ref x2), (3, .ref x3), (4, .ref x4), (5, .ref x5), (6, .ref x6), (7, .ref x7), (8, .ref x8), (9, .ref x9), (10, .ref x10), (11, .ref x11), (12, .ref x12), (13, .ref x13), (14, .ref x14), (15, .ref x15), (16, .ref x16), (17, .ref x17), (18, .int x18), (19, .int x19)] [] S :=
  h (fun y => cG p l e (cRm 14 mc ms 346) s m args below meth c A D Y 24 (MQ below (cQi post D Y A) args s mc ms A) (y.2.2.2.2.2.2.2.2.2.2.2.2.2.2.2.2.2.2.2.1) (y.2.2.2.2.2.2.2.2.2.2.2.2.2.2.2.2.2.2.2.2.1) 116 [(0, .ref sc), (1, .ref (y.1)), (2, .ref (y.2.1)), (3, .ref (y.2.2.1)), (4, .ref (y.2.2.2.1)), (5, .ref (y.2.2.2.2.1)), (6, .ref (y.2.2.2.2.2.1)), (7, .ref (y.2.2.2.2.2.2.1)), (8, .ref (y.2.2.2.2.2.2.2.1)), (9, .ref (y.2.2.2.2.2.2.2.2.1)), (10, .ref (y.2.2.2.2.2.2.2.2.2.1)), (11, .ref (y.2.2.2.2.2.2.2.2.2.2.1)), (12, .ref (y.2.2.2.2.2.2.2.2.2.2.2.1)), (13, .ref (y.2.2.2.2.2.2.2.2.2.2.2.2.1)), (14, .ref (y.2.2.2.2.2.2.2.2.2.2.2.2.2.1)), (15, .ref (y.2.2.2.2.2.2.2.2.2.2.2.2.2.2.1)), (16, .ref (y.2.2.2.2.2.2.2.2.2.2.2.2.2.2.2.1)), (17, .ref (y.2.2.2.2.2.2.2.2.2.2.2.2.2.2.2.2.1)), (18, .int (y.2.2.2.2.2.2.2.2.2.2.2.2.2.2.2.2.2.1)), (19, .int (y.2.2.2.2.2.2.2.2.2.2.2.2.2.2.2.2.2.2.1))] [] (y.2.2.2.2.2.2.2.2.2.2.2.2.2.2.2.2.2.2.2.2.2)) (fun y hy => tbs_L_holds_116 C hX hbl hbA hL hlt  (fun b0 b1 b2 b3 b4 b5 b6 b7 b8 b9 b10 b11 b12 b13 b14 b15 b16 b17 b18 b19 b20 S z => z) (y.1) (y.2.1) (y.2.2.1) (y.2.2.2.1) (y.2.2.2.2.1) (y.2.2.2.2.2.1) (y.2.2.2.2.2.2.1) (y.2.2.2.2.2.2.2.1) (y.2.2.2.2.2.2.2.2.1) (y.2.2.2.2.2.2.2.2.2.1) (y.2.2.2.2.2.2.2.2.2.2.1) (y.2.2.2.2.2.2.2.2.2.2.2.1) (y.2.2.2.2.2.2.2.2.2.2.2.2.1) (y.2.2.2.2.2.2.2.2.2.2.2.2.2.1) (y.2.2.2.2.2.2.2.2.2.2.2.2.2.2.1) (y.2.2.2.2.2.2.2.2.2.2.2.2.2.2.2.1) (y.2.2.2.2.2.2.2.2.2.2.2.2.2.2.2.2.1) (y.2.2.2.2.2.2.2.2.2.2.2.2.2.2.2.2.2.1) (y.2.2.2.2.2.2.2.2.2.2.2.2.2.2.2.2.2.2.1) (y.2.2.2.2.2.2.2.2.2.2.2.2.2.2.2.2.2.2.2.1) (y.2.2.2.2.2.2.2.2.2.2.2.2.2.2.2.2.2.2.2.2.1) (y.2.2.2.2.2.2.2.2.2.2.2.2.2.2.2.2.2.2.2.2.2) hy)
end Ss_L_holds
set_option maxHeartbeats 1000000 in
set_option maxRecDepth 20000 in
theorem ts_L_holds (l : Launch) {sc L : Nat} {xs : Nat → Int32} (hL : L ≤ 260) (hlt : l.stackTraces = false) (mc ms : Nat)  (S : cS) (dp : Nat) {P : Int32 → cS → Prop} (h : ks_L_holds P dp mc ms L  S) : cMetS (cQi P) l yL_holds cL_holds 24 (some .boolean) 14 mc ms 346 [.ref sc] S dp sc L xs := by
  intro D Y tp sz
  refine cg_bodyS (by decide +kernel) (Nat.le_of_ble_eq_true rfl) ?_
  intro p e s m args below meth c C hX hbl hbA
  generalize va_A (cWd Y S) sz = A at C hbA ⊢
  have C : cC p s m args meth c cL_holds 24 (some .boolean) A D Y tp dp RL := C
  refine cg_lv (lv' := [(0, .ref sc)]) rfl ?_
  unfold ks_L_holds at h
  obtain ⟨hc_0, h⟩ := h
  refine cg_new C (k := 11) (N := 19) (fs := [.null, .null, .null, .null, .null, .int 0, .null, .null, .null, .int 0, .null, .null, .null, .null, .int 0, .int 0, .int 0, .int 0, .int 0]) (by decide) rfl cWs_wsX110 tyX11_ok cn_L_69 ci_X11 ct_X11 (fun j_ hj_ => by rcases (show j_ = 0 ∨ j_ = 1 ∨ j_ = 2 ∨ j_ = 3 ∨ j_ = 4 ∨ j_ = 5 ∨ j_ = 6 ∨ j_ = 7 ∨ j_ = 8 ∨ j_ = 9 ∨ j_ = 10 ∨ j_ = 11 ∨ j_ = 12 ∨ j_ = 13 ∨ j_ = 14 ∨ j_ = 15 ∨ j_ = 16 ∨ j_ = 17 ∨ j_ = 18 by omega) with rfl | rfl | rfl | rfl | rfl | rfl | rfl | rfl | rfl | rfl | rfl | rfl | rfl | rfl | rfl | rfl | rfl | rfl | rfl <;> rfl) rfl hc_0.1 hc_0.2 dL_holds_0 (fun q1 hf_q1 => ?_)
  have h := h q1 hf_q1
  refine cg_nm (fun S2 e_S2 => ?_)
  have h := h S2 e_S2
  refine cg_dup C rfl dL_holds_3 ?_
  obtain ⟨mc3, ms4, hm_1, hm_2, h⟩ := h
  refine cg_callI C (t_X11_init l mc3 ms4 q1 S2 dp h) cz_L_264 rfl ⟨by decide, by decide⟩ ⟨hm_1, hm_2⟩ rfl (Nat.le_of_ble_eq_true rfl) dL_holds_4 (fun S_5 h => ?_)
  refine cg_astore_n (lv' := [(1, .ref q1), (0, .ref sc)]) C (i := 1) rfl (Nat.le_of_ble_eq_true rfl) rfl dL_holds_7 ?_
  refine cg_bipush C (x := nI 64) rfl dL_holds_8 ?_
  obtain ⟨n6, hn_1, hn_2, hn_3, hn_4, h⟩ := h
  refine cg_cast (.int (nI n6)) (congrArg Value.int hn_1) ?_
  refine cg_newJ C n6 hn_2 ca_long hn_3 hn_4 dL_holds_10 (fun q7 hf_q7 => ?_)
  have h := h q7 hf_q7
  refine cg_nm (fun S8 e_S8 => ?_)
  have h := h S8 e_S8
  refine cg_astore_n (lv' := [(2, .ref q7), (1, .ref q1), (0, .ref sc)]) C (i := 2) rfl (Nat.le_of_ble_eq_true rfl) rfl dL_holds_12 ?_
  refine cg_bipush C (x := nI 12) rfl dL_holds_13 ?_
  obtain ⟨n9, hn_1, hn_2, hn_3, hn_4, h⟩ := h
  refine cg_cast (.int (nI n9)) (congrArg Value.int hn_1) ?_
  refine cg_newJ C n9 hn_2 ca_long hn_3 hn_4 dL_holds_15 (fun q10 hf_q10 => ?_)
  have h := h q10 hf_q10
  refine cg_nm (fun S11 e_S11 => ?_)
  have h := h S11 e_S11
  refine cg_astore_n (lv' := [(3, .ref q10), (2, .ref q7), (1, .ref q1), (0, .ref sc)]) C (i := 3) rfl (Nat.le_of_ble_eq_true rfl) rfl dL_holds_17 ?_
  refine cg_bipush C (x := nI 30) rfl dL_holds_18 ?_
  obtain ⟨n12, hn_1, hn_2, hn_3, hn_4, h⟩ := h
  refine cg_cast (.int (nI n12)) (congrArg Value.int hn_1) ?_
  refine cg_newJ C n12 hn_2 ca_long hn_3 hn_4 dL_holds_20 (fun q13 hf_q13 => ?_)
  have h := h q13 hf_q13
  refine cg_nm (fun S14 e_S14 => ?_)
  have h := h S14 e_S14
  refine cg_astore (lv' := [(4, .ref q13), (3, .ref q10), (2, .ref q7), (1, .ref q1), (0, .ref sc)]) C (Nat.le_of_ble_eq_true rfl) rfl dL_holds_22 ?_
  refine cg_bipush C (x := nI 30) rfl dL_holds_24 ?_
  obtain ⟨n15, hn_1, hn_2, hn_3, hn_4, h⟩ := h
  refine cg_cast (.int (nI n15)) (congrArg Value.int hn_1) ?_
  refine cg_newI C n15 hn_2 ca_int hn_3 hn_4 dL_holds_26 (fun q16 hf_q16 => ?_)
  have h := h q16 hf_q16
  refine cg_nm (fun S17 e_S17 => ?_)
  have h := h S17 e_S17
  refine cg_astore (lv' := [(5, .ref q16), (4, .ref q13), (3, .ref q10), (2, .ref q7), (1, .ref q1), (0, .ref sc)]) C (Nat.le_of_ble_eq_true rfl) rfl dL_holds_28 ?_
  refine cg_bipush C (x := nI 30) rfl dL_holds_30 ?_
  obtain ⟨n18, hn_1, hn_2, hn_3, hn_4, h⟩ := h
  refine cg_cast (.int (nI n18)) (congrArg Value.int hn_1) ?_
  refine cg_newI C n18 hn_2 ca_int hn_3 hn_4 dL_holds_32 (fun q19 hf_q19 => ?_)
  have h := h q19 hf_q19
  refine cg_nm (fun S20 e_S20 => ?_)
  have h := h S20 e_S20
  refine cg_astore (lv' := [(6, .ref q19), (5, .ref q16), (4, .ref q13), (3, .ref q10), (2, .ref q7), (1, .ref q1), (0, .ref sc)]) C (Nat.le_of_ble_eq_true rfl) rfl dL_holds_34 ?_
  refine cg_bipush C (x := nI 30) rfl dL_holds_36 ?_
  obtain ⟨n21, hn_1, hn_2, hn_3, hn_4, h⟩ := h
  refine cg_cast (.int (nI n21)) (congrArg Value.int hn_1) ?_
  refine cg_newI C n21 hn_2 ca_int hn_3 hn_4 dL_holds_38 (fun q22 hf_q22 => ?_)
  have h := h q22 hf_q22
  refine cg_nm (fun S23 e_S23 => ?_)
  have h := h S23 e_S23
  refine cg_astore (lv' := [(7, .ref q22), (6, .ref q19), (5, .ref q16), (4, .ref q13), (3, .ref q10), (2, .ref q7), (1, .ref q1), (0, .ref sc)]) C (Nat.le_of_ble_eq_true rfl) rfl dL_holds_40 ?_
  refine cg_bipush C (x := nI 30) rfl dL_holds_42 ?_
  obtain ⟨n24, hn_1, hn_2, hn_3, hn_4, h⟩ := h
  refine cg_cast (.int (nI n24)) (congrArg Value.int hn_1) ?_
  refine cg_newI C n24 hn_2 ca_int hn_3 hn_4 dL_holds_44 (fun q25 hf_q25 => ?_)
  have h := h q25 hf_q25
  refine cg_nm (fun S26 e_S26 => ?_)
  have h := h S26 e_S26
  refine cg_astore (lv' := [(8, .ref q25), (7, .ref q22), (6, .ref q19), (5, .ref q16), (4, .ref q13), (3, .ref q10), (2, .ref q7), (1, .ref q1), (0, .ref sc)]) C (Nat.le_of_ble_eq_true rfl) rfl dL_holds_46 ?_
  refine cg_bipush C (x := nI 64) rfl dL_holds_48 ?_
  obtain ⟨n27, hn_1, hn_2, hn_3, hn_4, h⟩ := h
  refine cg_cast (.int (nI n27)) (congrArg Value.int hn_1) ?_
  refine cg_newI C n27 hn_2 ca_int hn_3 hn_4 dL_holds_50 (fun q28 hf_q28 => ?_)
  have h := h q28 hf_q28
  refine cg_nm (fun S29 e_S29 => ?_)
  have h := h S29 e_S29
  refine cg_astore (lv' := [(9, .ref q28), (8, .ref q25), (7, .ref q22), (6, .ref q19), (5, .ref q16), (4, .ref q13), (3, .ref q10), (2, .ref q7), (1, .ref q1), (0, .ref sc)]) C (Nat.le_of_ble_eq_true rfl) rfl dL_holds_52 ?_
  refine cg_bipush C (x := nI 64) rfl dL_holds_54 ?_
  obtain ⟨n30, hn_1, hn_2, hn_3, hn_4, h⟩ := h
  refine cg_cast (.int (nI n30)) (congrArg Value.int hn_1) ?_
  refine cg_newI C n30 hn_2 ca_int hn_3 hn_4 dL_holds_56 (fun q31 hf_q31 => ?_)
  have h := h q31 hf_q31
  refine cg_nm (fun S32 e_S32 => ?_)
  have h := h S32 e_S32
  refine cg_astore (lv' := [(10, .ref q31), (9, .ref q28), (8, .ref q25), (7, .ref q22), (6, .ref q19), (5, .ref q16), (4, .ref q13), (3, .ref q10), (2, .ref q7), (1, .ref q1), (0, .ref sc)]) C (Nat.le_of_ble_eq_true rfl) rfl dL_holds_58 ?_
  refine cg_bipush C (x := nI 64) rfl dL_holds_60 ?_
  obtain ⟨n33, hn_1, hn_2, hn_3, hn_4, h⟩ := h
  refine cg_cast (.int (nI n33)) (congrArg Value.int hn_1) ?_
  refine cg_newI C n33 hn_2 ca_int hn_3 hn_4 dL_holds_62 (fun q34 hf_q34 => ?_)
  have h := h q34 hf_q34
  refine cg_nm (fun S35 e_S35 => ?_)
  have h := h S35 e_S35
  refine cg_astore (lv' := [(11, .ref q34), (10, .ref q31), (9, .ref q28), (8, .ref q25), (7, .ref q22), (6, .ref q19), (5, .ref q16), (4, .ref q13), (3, .ref q10), (2, .ref q7), (1, .ref q1), (0, .ref sc)]) C (Nat.le_of_ble_eq_true rfl) rfl dL_holds_64 ?_
  refine cg_bipush C (x := nI 64) rfl dL_holds_66 ?_
  obtain ⟨n36, hn_1, hn_2, hn_3, hn_4, h⟩ := h
  refine cg_cast (.int (nI n36)) (congrArg Value.int hn_1) ?_
  refine cg_newI C n36 hn_2 ca_int hn_3 hn_4 dL_holds_68 (fun q37 hf_q37 => ?_)
  have h := h q37 hf_q37
  refine cg_nm (fun S38 e_S38 => ?_)
  have h := h S38 e_S38
  refine cg_astore (lv' := [(12, .ref q37), (11, .ref q34), (10, .ref q31), (9, .ref q28), (8, .ref q25), (7, .ref q22), (6, .ref q19), (5, .ref q16), (4, .ref q13), (3, .ref q10), (2, .ref q7), (1, .ref q1), (0, .ref sc)]) C (Nat.le_of_ble_eq_true rfl) rfl dL_holds_70 ?_
  refine cg_bipush C (x := nI 8) rfl dL_holds_72 ?_
  obtain ⟨n39, hn_1, hn_2, hn_3, hn_4, h⟩ := h
  refine cg_cast (.int (nI n39)) (congrArg Value.int hn_1) ?_
  refine cg_newI C n39 hn_2 ca_int hn_3 hn_4 dL_holds_74 (fun q40 hf_q40 => ?_)
  have h := h q40 hf_q40
  refine cg_nm (fun S41 e_S41 => ?_)
  have h := h S41 e_S41
  refine cg_astore (lv' := [(13, .ref q40), (12, .ref q37), (11, .ref q34), (10, .ref q31), (9, .ref q28), (8, .ref q25), (7, .ref q22), (6, .ref q19), (5, .ref q16), (4, .ref q13), (3, .ref q10), (2, .ref q7), (1, .ref q1), (0, .ref sc)]) C (Nat.le_of_ble_eq_true rfl) rfl dL_holds_76 ?_
  refine cg_bipush C (x := nI 40) rfl dL_holds_78 ?_
  obtain ⟨n42, hn_1, hn_2, hn_3, hn_4, h⟩ := h
  refine cg_cast (.int (nI n42)) (congrArg Value.int hn_1) ?_
  refine cg_newI C n42 hn_2 ca_int hn_3 hn_4 dL_holds_80 (fun q43 hf_q43 => ?_)
  have h := h q43 hf_q43
  refine cg_nm (fun S44 e_S44 => ?_)
  have h := h S44 e_S44
  refine cg_astore (lv' := [(14, .ref q43), (13, .ref q40), (12, .ref q37), (11, .ref q34), (10, .ref q31), (9, .ref q28), (8, .ref q25), (7, .ref q22), (6, .ref q19), (5, .ref q16), (4, .ref q13), (3, .ref q10), (2, .ref q7), (1, .ref q1), (0, .ref sc)]) C (Nat.le_of_ble_eq_true rfl) rfl dL_holds_82 ?_
  refine cg_bipush C (x := nI 32) rfl dL_holds_84 ?_
  obtain ⟨n45, hn_1, hn_2, hn_3, hn_4, h⟩ := h
  refine cg_cast (.int (nI n45)) (congrArg Value.int hn_1) ?_
  refine cg_newI C n45 hn_2 ca_int hn_3 hn_4 dL_holds_86 (fun q46 hf_q46 => ?_)
  have h := h q46 hf_q46
  refine cg_nm (fun S47 e_S47 => ?_)
  have h := h S47 e_S47
  refine cg_astore (lv' := [(15, .ref q46), (14, .ref q43), (13, .ref q40), (12, .ref q37), (11, .ref q34), (10, .ref q31), (9, .ref q28), (8, .ref q25), (7, .ref q22), (6, .ref q19), (5, .ref q16), (4, .ref q13), (3, .ref q10), (2, .ref q7), (1, .ref q1), (0, .ref sc)]) C (Nat.le_of_ble_eq_true rfl) rfl dL_holds_88 ?_
  refine cg_bipush C (x := nI 30) rfl dL_holds_90 ?_
  obtain ⟨n48, hn_1, hn_2, hn_3, hn_4, h⟩ := h
  refine cg_cast (.int (nI n48)) (congrArg Value.int hn_1) ?_
  refine cg_newI C n48 hn_2 ca_int hn_3 hn_4 dL_holds_92 (fun q49 hf_q49 => ?_)
  have h := h q49 hf_q49
  refine cg_nm (fun S50 e_S50 => ?_)
  have h := h S50 e_S50
  refine cg_astore (lv' := [(16, .ref q49), (15, .ref q46), (14, .ref q43), (13, .ref q40), (12, .ref q37), (11, .ref q34), (10, .ref q31), (9, .ref q28), (8, .ref q25), (7, .ref q22), (6, .ref q19), (5, .ref q16), (4, .ref q13), (3, .ref q10), (2, .ref q7), (1, .ref q1), (0, .ref sc)]) C (Nat.le_of_ble_eq_true rfl) rfl dL_holds_94 ?_
  refine cg_bipush C (x := nI 17) rfl dL_holds_96 ?_
  obtain ⟨n51, hn_1, hn_2, hn_3, hn_4, h⟩ := h
  refine cg_cast (.int (nI n51)) (congrArg Value.int hn_1) ?_
  refine cg_newI C n51 hn_2 ca_int hn_3 hn_4 dL_holds_98 (fun q52 hf_q52 => ?_)
  have h := h q52 hf_q52
  refine cg_nm (fun S53 e_S53 => ?_)
  have h := h S53 e_S53
  refine cg_astore (lv' := [(17, .ref q52), (16, .ref q49), (15, .ref q46), (14, .ref q43), (13, .ref q40), (12, .ref q37), (11, .ref q34), (10, .ref q31), (9, .ref q28), (8, .ref q25), (7, .ref q22), (6, .ref q19), (5, .ref q16), (4, .ref q13), (3, .ref q10), (2, .ref q7), (1, .ref q1), (0, .ref sc)]) C (Nat.le_of_ble_eq_true rfl) rfl dL_holds_100 ?_
  refine cg_aload_n C (i := 1) rfl 16 rfl dL_holds_102 ?_
  obtain ⟨mc54, ms55, hm_1, hm_2, h⟩ := h
  refine cg_callsi C (t_L_isReady l mc54 ms55 q1 S53 dp h) cc_L_265 rfl ⟨by decide, by decide⟩ ⟨hm_1, hm_2⟩ rfl (Nat.le_of_ble_eq_true rfl) dL_holds_103 (fun r_56 S_56 h => ?_)
  refine cg_istore C (lv' := [(18, .int r_56), (17, .ref q52), (16, .ref q49), (15, .ref q46), (14, .ref q43), (13, .ref q40), (12, .ref q37), (11, .ref q34), (10, .ref q31), (9, .ref q28), (8, .ref q25), (7, .ref q22), (6, .ref q19), (5, .ref q16), (4, .ref q13), (3, .ref q10), (2, .ref q7), (1, .ref q1), (0, .ref sc)]) (Nat.le_of_ble_eq_true rfl) rfl dL_holds_106 ?_
  refine cg_aload C 1 rfl dL_holds_108 ?_
  refine cg_iconst C (x := nI 5) rfl dL_holds_110 ?_
  refine cg_iconst C (x := (-1)) rfl dL_holds_111 ?_
  obtain ⟨hc_112, h⟩ := h
  refine cg_iastoreR C hc_112 dL_holds_112 ?_
  refine cg_nm (fun S57 e_S57 => ?_)
  have h := h S57 e_S57
  refine cg_iconst C (x := nI 0) rfl dL_holds_113 ?_
  refine cg_istore C (lv' := [(19, .int ((nI 0))), (18, .int r_56), (17, .ref q52), (16, .ref q49), (15, .ref q46), (14, .ref q43), (13, .ref q40), (12, .ref q37), (11, .ref q34), (10, .ref q31), (9, .ref q28), (8, .ref q25), (7, .ref q22), (6, .ref q19), (5, .ref q16), (4, .ref q13), (3, .ref q10), (2, .ref q7), (1, .ref q1), (0, .ref sc)]) (Nat.le_of_ble_eq_true rfl) rfl dL_holds_114 ?_
  exact cg_sub [19, 18, 17, 16, 15, 14, 13, 12, 11, 10, 9, 8, 7, 6, 5, 4, 3, 2, 1, 0] rfl (tls_L_holds_116 C hX hbl hbA hL hlt  q1 q7 q10 q13 q16 q19 q22 q25 q28 q31 q34 q37 q40 q43 q46 q49 q52 r_56 (((nI 0))) (0 + 1 + mc3 + 1 + 1 + 1 + 1 + 1 + 1 + 1 + 1 + 1 + 1 + 1 + 1 + 1 + 1 + 1 + 1 + mc54) (0 + 19 + ms4 + n6 + n9 + n12 + n15 + n18 + n21 + n24 + n27 + n30 + n33 + n36 + n39 + n42 + n45 + n48 + n51 + ms55) S57 h)
