/-! the reference: its constructor -/
/-- what the calls ask of a fresh reference -/
def mFr (v : Nat → Int32) (f : Nat → Nat → Int32) (g : Nat → Nat → Int64) : Prop := (v 2 = nI 0) ∧ (v 4 = nI 0) ∧ (v 6 = nI 0) ∧ (v 9 = nI 0) ∧ (v 10 = nI 0) ∧ (v 13 = nI 0) ∧ (v 14 = nI 0) ∧ (v 20 = nI 0) ∧ (v 26 = nI 0) ∧ (v 29 = nI 0) ∧ (v 34 = nI 0) ∧ (v 35 = nI 0) ∧ (v 37 = nI 0) ∧ (v 39 = nI 0) ∧ (v 40 = nI 0) ∧ (v 42 = nI 0) ∧ (v 48 = nI 0) ∧ (v 49 = nI 0) ∧ (v 52 = nI 0) ∧ (v 53 = nI 0) ∧ (v 55 = nI 0) ∧ (v 58 = nI 0) ∧ (v 60 = nI 0) ∧ (v 71 = nI 0) ∧ (v 72 = nI 0) ∧ (v 73 = nI 0) ∧ (v 77 = nI 0) ∧ (v 85 = nI 0) ∧ (v 88 = nI 0) ∧ (v 89 = nI 0) ∧ (v 90 = nI 0) ∧ (v 92 = nI 0) ∧ (v 96 = nI 0) ∧ (v 97 = (-1)) ∧ (v 98 = nI 0) ∧ (v 99 = nI 0) ∧ (∀ k : Nat, f 2 k = nI 0) ∧ (∀ k : Nat, g 3 k = 0) ∧ (∀ k : Nat, g 4 k = 0) ∧ (∀ k : Nat, g 5 k = 0) ∧ (∀ k : Nat, g 6 k = 0) ∧ (∀ k : Nat, g 7 k = 0) ∧ (∀ k : Nat, f 8 k = nI 0) ∧ (∀ k : Nat, f 9 k = nI 0) ∧ (∀ k : Nat, f 10 k = nI 0) ∧ (∀ k : Nat, f 11 k = nI 0) ∧ (∀ k : Nat, g 12 k = 0) ∧ (∀ k : Nat, f 13 k = nI 0) ∧ (∀ k : Nat, f 14 k = nI 0) ∧ (∀ k : Nat, f 15 k = nI 0) ∧ (∀ k : Nat, f 16 k = nI 0) ∧ (∀ k : Nat, g 17 k = 0) ∧ (∀ k : Nat, f 18 k = nI 0) ∧ (∀ k : Nat, f 19 k = nI 0) ∧ (∀ k : Nat, f 20 k = nI 0) ∧ (∀ k : Nat, f 21 k = nI 0) ∧ (∀ k : Nat, f 22 k = nI 0) ∧ (∀ k : Nat, f 23 k = nI 0) ∧ (∀ k : Nat, f 24 k = nI 0) ∧ (∀ k : Nat, f 25 k = nI 0) ∧ (∀ k : Nat, f 26 k = nI 0) ∧ (∀ k : Nat, f 27 k = nI 0) ∧ (∀ k : Nat, f 28 k = nI 0) ∧ (∀ k : Nat, f 30 k = nI 0) ∧ (∀ k : Nat, f 31 k = nI 0) ∧ (∀ k : Nat, f 32 k = nI 0) ∧ (∀ k : Nat, f 33 k = nI 0) ∧ (∀ k : Nat, f 34 k = nI 0) ∧ (∀ k : Nat, g 35 k = 0) ∧ (∀ k : Nat, f 36 k = nI 0) ∧ (∀ k : Nat, f 37 k = nI 0) ∧ (∀ k : Nat, f 38 k = nI 0) ∧ (∀ k : Nat, f 39 k = nI 0) ∧ (∀ k : Nat, f 40 k = nI 0) ∧ (∀ k : Nat, f 41 k = nI 0) ∧ (∀ k : Nat, f 42 k = nI 0) ∧ (∀ k : Nat, f 43 k = nI 0) ∧ (∀ k : Nat, f 44 k = nI 0) ∧ (∀ k : Nat, g 45 k = 0) ∧ (∀ k : Nat, f 46 k = nI 0) ∧ (∀ k : Nat, f 47 k = nI 0) ∧ (∀ k : Nat, f 48 k = nI 0) ∧ (∀ k : Nat, g 50 k = 0) ∧ (∀ k : Nat, f 51 k = nI 0) ∧ (∀ k : Nat, f 52 k = nI 0) ∧ (∀ k : Nat, f 53 k = nI 0) ∧ (∀ k : Nat, f 54 k = nI 0) ∧ (∀ k : Nat, f 55 k = nI 0) ∧ (∀ k : Nat, f 56 k = nI 0) ∧ (∀ k : Nat, f 57 k = nI 0) ∧ (∀ k : Nat, f 58 k = nI 0) ∧ (∀ k : Nat, f 59 k = nI 0) ∧ (∀ k : Nat, f 60 k = nI 0) ∧ (∀ k : Nat, f 61 k = nI 0) ∧ (∀ k : Nat, f 62 k = nI 0) ∧ (∀ k : Nat, f 63 k = nI 0) ∧ (∀ k : Nat, f 64 k = nI 0) ∧ (g 1 0 = 177917621779460413) ∧ (g 1 1 = 4808584372417849) ∧ (g 1 2 = 129961739795077) ∧ (g 1 3 = 3512479453921) ∧ (g 1 4 = 94931877133) ∧ (g 1 5 = 2565726409) ∧ (g 1 6 = 69343957) ∧ (g 1 7 = 1874161) ∧ (g 1 8 = 50653) ∧ (g 1 9 = 1369) ∧ (g 1 10 = 37) ∧ (g 1 11 = 1) ∧ (f 29 0 = (-1)) ∧ (f 29 1 = (-1)) ∧ (f 29 2 = (-1)) ∧ (f 29 3 = (-1)) ∧ (f 29 4 = (-1)) ∧ (f 49 0 = nI 3) ∧ (f 49 1 = nI 1)
set_option maxHeartbeats 8000000 in
set_option maxRecDepth 100000 in
theorem c_init (l : Launch) (h : Nat) : ∀ (D : va_G) (cI cJ cZ : ClassId) (sz : Nat), Met l yX12_init (.code yX12_init cX12_init 4 none :: mWs) (cRm 1 64 403136 30) (va_Pc [.ref h] (fun U => U.heap.size = sz ∧ va_P D vwCl (mP 0 cI cJ cZ (fun _ => h) (fun _ => 0)) U.heap ∧ va_K D vwCl (mTys cI cJ cZ) U ∧ va_D (fun _ => True) (mP 0 cI cJ cZ (fun _ => h) (fun _ => 0)))) (va_Qv (fun u : (Nat → Nat) × mS => u.1 0 = h ∧ mFr u.2.1 u.2.2.1 u.2.2.2) (fun (u : (Nat → Nat) × mS) t => (va_P D vwCl (mW cI cJ cZ u.1 u.2.1 u.2.2.1 u.2.2.2) t.heap ∧ va_K D vwCl (mTys cI cJ cZ) t) ∧ va_D (va_A (mP 0 cI cJ cZ (fun _ => h) (fun _ => 0)) sz) (mW cI cJ cZ u.1 u.2.1 u.2.2.1 u.2.2.2)) (va_A (mP 0 cI cJ cZ (fun _ => h) (fun _ => 0)) sz)) 64 403136 (va_A (mP 0 cI cJ cZ (fun _ => h) (fun _ => 0)) sz) := by
  intro D cI cJ cZ sz
  refine Met.ofW (cc := cX12_init) (maxL := 4) (ret := none) (by decide +kernel) rfl ?_
  intro p e s m args below meth c s₁ B hml hv
  obtain ⟨rfl, hsz, hP, hK, hD0⟩ := hv
  have hts := atoms_spec (ws := Cond.code yX12_init cX12_init 4 none :: mWs) B.pre
  have hown : s.vm.findClass RX12 = some m.cls := findClass_of_methodNamed B.named
  have hl := lv_entry [.ref h] (n := 4) (Nat.le_of_ble_eq_true rfl)
  have hin : meth.name = "<init>" := (name_of_methodNamed B.named B.method).1
  rw [lg_entry_eq]
  subst hsz
  generalize hA : va_A (mP 0 cI cJ cZ (fun _ => h) (fun _ => 0)) (Array.size s.heap) = A
  have C : mC p s m ([.ref h] : List Value).toArray meth c cX12_init 4 none A D cI cJ cZ := ⟨B.exec, B.bytes, hml, hown, fun w h => hts w (List.mem_cons_of_mem _ h), hK, B.notSynchronized, B.returns, fun q h => by rw [← hA]; exact Or.inr h⟩
  suffices K : pG p l e (cRm 1 64 403136 30) s m ([.ref h] : List Value).toArray below meth c A D cI cJ cZ 0 (fun _ => h) 4 (MQ below (va_Qv (fun u : (Nat → Nat) × mS => u.1 0 = h ∧ mFr u.2.1 u.2.2.1 u.2.2.2) (fun (u : (Nat → Nat) × mS) t => (va_P D vwCl (mW cI cJ cZ u.1 u.2.1 u.2.2.1 u.2.2.2) t.heap ∧ va_K D vwCl (mTys cI cJ cZ) t) ∧ va_D A (mW cI cJ cZ u.1 u.2.1 u.2.2.1 u.2.2.2)) A) ([.ref h] : List Value).toArray s 64 403136 A) 0 0 0 [(0, .ref h)] [] (fun _ => 0) by
    exact K s.heap [] _ hP (by rw [← hA]; exact hD0.self) va_S.rf hl
  refine pg_aload_n C (i := 0) rfl 0 rfl dX12_init_0 ?_
  refine pg_objInit C (mWs_in 0 rfl) (mWs_in 1 rfl) (mWs_in 2 rfl) (by decide) (by decide) dX12_init_1 ?_
  have ha_0 : (fun _ => h : Nat → Nat) 0 = h := rfl
  refine pg_aload_n C (i := 0) rfl 0 rfl dX12_init_4 ?_
  refine pg_a0 (a := (fun _ => h)) (by rfl) ?_
  refine pg_bipush C (x := nI 12) rfl dX12_init_5 ?_
  refine pg_rowJ C hin 0 (k := 0) (by decide) rfl (by decide +kernel) rfl rfl (by decide) (mWs_in 3 rfl) mL_powers rfl (by decide +kernel) (by decide +kernel) (Nat.le_of_ble_eq_true rfl) (Nat.le_of_ble_eq_true rfl) dX12_init_7 dX12_init_9 (fun q_1 => ?_)
  obtain ⟨a_1, he_1⟩ : ∃ a_, a_ = upR (fun _ => h) 1 q_1 := ⟨_, rfl⟩
  rw [← he_1]
  have ha_1 : a_1 0 = h := by rw [he_1]; exact rfl
  refine pg_aload_n C (i := 0) rfl 0 rfl dX12_init_12 ?_
  refine pg_a0 (a := a_1) (by exact ha_1) ?_
  refine pg_bipush C (x := nI 40) rfl dX12_init_13 ?_
  refine pg_rowI C hin 1 (k := 1) (by decide) rfl (by decide +kernel) rfl rfl (by decide) (mWs_in 5 rfl) mL_pad rfl (by decide +kernel) (by decide +kernel) (Nat.le_of_ble_eq_true rfl) (Nat.le_of_ble_eq_true rfl) dX12_init_15 dX12_init_17 (fun q_2 => ?_)
  obtain ⟨a_2, he_2⟩ : ∃ a_, a_ = upR a_1 2 q_2 := ⟨_, rfl⟩
  rw [← he_2]
  have ha_2 : a_2 0 = h := by rw [he_2]; exact (upR_n (by decide)).trans ha_1
  refine pg_aload_n C (i := 0) rfl 0 rfl dX12_init_20 ?_
  refine pg_a0 (a := a_2) (by exact ha_2) ?_
  refine pg_bipush C (x := nI 20) rfl dX12_init_21 ?_
  refine pg_rowJ C hin 2 (k := 3) (by decide) rfl (by decide +kernel) rfl rfl (by decide) (mWs_in 3 rfl) mL_words rfl (by decide +kernel) (by decide +kernel) (Nat.le_of_ble_eq_true rfl) (Nat.le_of_ble_eq_true rfl) dX12_init_23 dX12_init_25 (fun q_3 => ?_)
  obtain ⟨a_3, he_3⟩ : ∃ a_, a_ = upR a_2 3 q_3 := ⟨_, rfl⟩
  rw [← he_3]
  have ha_3 : a_3 0 = h := by rw [he_3]; exact (upR_n (by decide)).trans ha_2
  refine pg_aload_n C (i := 0) rfl 0 rfl dX12_init_28 ?_
  refine pg_a0 (a := a_3) (by exact ha_3) ?_
  refine pg_bipush C (x := nI 10) rfl dX12_init_29 ?_
  refine pg_rowJ C hin 3 (k := 5) (by decide) rfl (by decide +kernel) rfl rfl (by decide) (mWs_in 3 rfl) mL_stops rfl (by decide +kernel) (by decide +kernel) (Nat.le_of_ble_eq_true rfl) (Nat.le_of_ble_eq_true rfl) dX12_init_31 dX12_init_33 (fun q_4 => ?_)
  obtain ⟨a_4, he_4⟩ : ∃ a_, a_ = upR a_3 4 q_4 := ⟨_, rfl⟩
  rw [← he_4]
  have ha_4 : a_4 0 = h := by rw [he_4]; exact (upR_n (by decide)).trans ha_3
  refine pg_aload_n C (i := 0) rfl 0 rfl dX12_init_36 ?_
  refine pg_a0 (a := a_4) (by exact ha_4) ?_
  refine pg_bipush C (x := nI 10) rfl dX12_init_37 ?_
  refine pg_rowJ C hin 4 (k := 7) (by decide) rfl (by decide +kernel) rfl rfl (by decide) (mWs_in 3 rfl) mL_firsts rfl (by decide +kernel) (by decide +kernel) (Nat.le_of_ble_eq_true rfl) (Nat.le_of_ble_eq_true rfl) dX12_init_39 dX12_init_41 (fun q_5 => ?_)
  obtain ⟨a_5, he_5⟩ : ∃ a_, a_ = upR a_4 5 q_5 := ⟨_, rfl⟩
  rw [← he_5]
  have ha_5 : a_5 0 = h := by rw [he_5]; exact (upR_n (by decide)).trans ha_4
  refine pg_aload_n C (i := 0) rfl 0 rfl dX12_init_44 ?_
  refine pg_a0 (a := a_5) (by exact ha_5) ?_
  refine pg_bipush C (x := nI 10) rfl dX12_init_45 ?_
  refine pg_rowJ C hin 5 (k := 8) (by decide) rfl (by decide +kernel) rfl rfl (by decide) (mWs_in 3 rfl) mL_seconds rfl (by decide +kernel) (by decide +kernel) (Nat.le_of_ble_eq_true rfl) (Nat.le_of_ble_eq_true rfl) dX12_init_47 dX12_init_49 (fun q_6 => ?_)
  obtain ⟨a_6, he_6⟩ : ∃ a_, a_ = upR a_5 6 q_6 := ⟨_, rfl⟩
  rw [← he_6]
  have ha_6 : a_6 0 = h := by rw [he_6]; exact (upR_n (by decide)).trans ha_5
  refine pg_aload_n C (i := 0) rfl 0 rfl dX12_init_52 ?_
  refine pg_a0 (a := a_6) (by exact ha_6) ?_
  refine pg_bipush C (x := nI 40) rfl dX12_init_53 ?_
  refine pg_rowJ C hin 6 (k := 11) (by decide) rfl (by decide +kernel) rfl rfl (by decide) (mWs_in 3 rfl) mL_draftStems rfl (by decide +kernel) (by decide +kernel) (Nat.le_of_ble_eq_true rfl) (Nat.le_of_ble_eq_true rfl) dX12_init_55 dX12_init_57 (fun q_7 => ?_)
  obtain ⟨a_7, he_7⟩ : ∃ a_, a_ = upR a_6 7 q_7 := ⟨_, rfl⟩
  rw [← he_7]
  have ha_7 : a_7 0 = h := by rw [he_7]; exact (upR_n (by decide)).trans ha_6
  refine pg_aload_n C (i := 0) rfl 0 rfl dX12_init_60 ?_
  refine pg_a0 (a := a_7) (by exact ha_7) ?_
  refine pg_iconst C (x := nI 2) rfl dX12_init_61 ?_
  refine pg_rowI C hin 7 (k := 12) (by decide) rfl (by decide +kernel) rfl rfl (by decide) (mWs_in 5 rfl) mL_draftPlaces rfl (by decide +kernel) (by decide +kernel) (Nat.le_of_ble_eq_true rfl) (Nat.le_of_ble_eq_true rfl) dX12_init_62 dX12_init_64 (fun q_8 => ?_)
  obtain ⟨a_8, he_8⟩ : ∃ a_, a_ = upR a_7 8 q_8 := ⟨_, rfl⟩
  rw [← he_8]
  have ha_8 : a_8 0 = h := by rw [he_8]; exact (upR_n (by decide)).trans ha_7
  refine pg_aload_n C (i := 0) rfl 0 rfl dX12_init_67 ?_
  refine pg_a0 (a := a_8) (by exact ha_8) ?_
  refine pg_bipush C (x := nI 12) rfl dX12_init_68 ?_
  refine pg_rowI C hin 8 (k := 15) (by decide) rfl (by decide +kernel) rfl rfl (by decide) (mWs_in 5 rfl) mL_bufferKeys rfl (by decide +kernel) (by decide +kernel) (Nat.le_of_ble_eq_true rfl) (Nat.le_of_ble_eq_true rfl) dX12_init_70 dX12_init_72 (fun q_9 => ?_)
  obtain ⟨a_9, he_9⟩ : ∃ a_, a_ = upR a_8 9 q_9 := ⟨_, rfl⟩
  rw [← he_9]
  have ha_9 : a_9 0 = h := by rw [he_9]; exact (upR_n (by decide)).trans ha_8
  refine pg_aload_n C (i := 0) rfl 0 rfl dX12_init_75 ?_
  refine pg_a0 (a := a_9) (by exact ha_9) ?_
  refine pg_bipush C (x := nI 12) rfl dX12_init_76 ?_
  refine pg_rowI C hin 9 (k := 16) (by decide) rfl (by decide +kernel) rfl rfl (by decide) (mWs_in 5 rfl) mL_bufferCategories rfl (by decide +kernel) (by decide +kernel) (Nat.le_of_ble_eq_true rfl) (Nat.le_of_ble_eq_true rfl) dX12_init_78 dX12_init_80 (fun q_10 => ?_)
  obtain ⟨a_10, he_10⟩ : ∃ a_, a_ = upR a_9 10 q_10 := ⟨_, rfl⟩
  rw [← he_10]
  have ha_10 : a_10 0 = h := by rw [he_10]; exact (upR_n (by decide)).trans ha_9
  refine pg_aload_n C (i := 0) rfl 0 rfl dX12_init_83 ?_
  refine pg_a0 (a := a_10) (by exact ha_10) ?_
  refine pg_bipush C (x := nI 12) rfl dX12_init_84 ?_
  refine pg_rowI C hin 10 (k := 17) (by decide) rfl (by decide +kernel) rfl rfl (by decide) (mWs_in 5 rfl) mL_bufferNumbers rfl (by decide +kernel) (by decide +kernel) (Nat.le_of_ble_eq_true rfl) (Nat.le_of_ble_eq_true rfl) dX12_init_86 dX12_init_88 (fun q_11 => ?_)
  obtain ⟨a_11, he_11⟩ : ∃ a_, a_ = upR a_10 11 q_11 := ⟨_, rfl⟩
  rw [← he_11]
  have ha_11 : a_11 0 = h := by rw [he_11]; exact (upR_n (by decide)).trans ha_10
  refine pg_aload_n C (i := 0) rfl 0 rfl dX12_init_91 ?_
  refine pg_a0 (a := a_11) (by exact ha_11) ?_
  refine pg_sipush C (x := nI 480) rfl dX12_init_92 ?_
  refine pg_rowJ C hin 11 (k := 18) (by decide) rfl (by decide +kernel) rfl rfl (by decide) (mWs_in 3 rfl) mL_bufferStems rfl (by decide +kernel) (by decide +kernel) (Nat.le_of_ble_eq_true rfl) (Nat.le_of_ble_eq_true rfl) dX12_init_95 dX12_init_97 (fun q_12 => ?_)
  obtain ⟨a_12, he_12⟩ : ∃ a_, a_ = upR a_11 12 q_12 := ⟨_, rfl⟩
  rw [← he_12]
  have ha_12 : a_12 0 = h := by rw [he_12]; exact (upR_n (by decide)).trans ha_11
  refine pg_aload_n C (i := 0) rfl 0 rfl dX12_init_100 ?_
  refine pg_a0 (a := a_12) (by exact ha_12) ?_
  refine pg_bipush C (x := nI 24) rfl dX12_init_101 ?_
  refine pg_rowI C hin 12 (k := 19) (by decide) rfl (by decide +kernel) rfl rfl (by decide) (mWs_in 5 rfl) mL_bufferPlaces rfl (by decide +kernel) (by decide +kernel) (Nat.le_of_ble_eq_true rfl) (Nat.le_of_ble_eq_true rfl) dX12_init_103 dX12_init_105 (fun q_13 => ?_)
  obtain ⟨a_13, he_13⟩ : ∃ a_, a_ = upR a_12 13 q_13 := ⟨_, rfl⟩
  rw [← he_13]
  have ha_13 : a_13 0 = h := by rw [he_13]; exact (upR_n (by decide)).trans ha_12
  refine pg_aload_n C (i := 0) rfl 0 rfl dX12_init_108 ?_
  refine pg_a0 (a := a_13) (by exact ha_13) ?_
  refine pg_sipush C (x := nI 2424) rfl dX12_init_109 ?_
  refine pg_rowI C hin 13 (k := 21) (by decide) rfl (by decide +kernel) rfl rfl (by decide) (mWs_in 5 rfl) mL_keys rfl (by decide +kernel) (by decide +kernel) (Nat.le_of_ble_eq_true rfl) (Nat.le_of_ble_eq_true rfl) dX12_init_112 dX12_init_114 (fun q_14 => ?_)
  obtain ⟨a_14, he_14⟩ : ∃ a_, a_ = upR a_13 14 q_14 := ⟨_, rfl⟩
  rw [← he_14]
  have ha_14 : a_14 0 = h := by rw [he_14]; exact (upR_n (by decide)).trans ha_13
  refine pg_aload_n C (i := 0) rfl 0 rfl dX12_init_117 ?_
  refine pg_a0 (a := a_14) (by exact ha_14) ?_
  refine pg_sipush C (x := nI 2424) rfl dX12_init_118 ?_
  refine pg_rowI C hin 14 (k := 22) (by decide) rfl (by decide +kernel) rfl rfl (by decide) (mWs_in 5 rfl) mL_categories rfl (by decide +kernel) (by decide +kernel) (Nat.le_of_ble_eq_true rfl) (Nat.le_of_ble_eq_true rfl) dX12_init_121 dX12_init_123 (fun q_15 => ?_)
  obtain ⟨a_15, he_15⟩ : ∃ a_, a_ = upR a_14 15 q_15 := ⟨_, rfl⟩
  rw [← he_15]
  have ha_15 : a_15 0 = h := by rw [he_15]; exact (upR_n (by decide)).trans ha_14
  refine pg_aload_n C (i := 0) rfl 0 rfl dX12_init_126 ?_
  refine pg_a0 (a := a_15) (by exact ha_15) ?_
  refine pg_sipush C (x := nI 2424) rfl dX12_init_127 ?_
  refine pg_rowI C hin 15 (k := 23) (by decide) rfl (by decide +kernel) rfl rfl (by decide) (mWs_in 5 rfl) mL_numbers rfl (by decide +kernel) (by decide +kernel) (Nat.le_of_ble_eq_true rfl) (Nat.le_of_ble_eq_true rfl) dX12_init_130 dX12_init_132 (fun q_16 => ?_)
  obtain ⟨a_16, he_16⟩ : ∃ a_, a_ = upR a_15 16 q_16 := ⟨_, rfl⟩
  rw [← he_16]
  have ha_16 : a_16 0 = h := by rw [he_16]; exact (upR_n (by decide)).trans ha_15
  refine pg_aload_n C (i := 0) rfl 0 rfl dX12_init_135 ?_
  refine pg_a0 (a := a_16) (by exact ha_16) ?_
  refine pg_ldc C (x := nI 96960) (mWs_in 21 rfl) dX12_init_136 ?_
  refine pg_rowJ C hin 16 (k := 24) (by decide) rfl (by decide +kernel) rfl rfl (by decide) (mWs_in 3 rfl) mL_stems rfl (by decide +kernel) (by decide +kernel) (Nat.le_of_ble_eq_true rfl) (Nat.le_of_ble_eq_true rfl) dX12_init_138 dX12_init_140 (fun q_17 => ?_)
  obtain ⟨a_17, he_17⟩ : ∃ a_, a_ = upR a_16 17 q_17 := ⟨_, rfl⟩
  rw [← he_17]
  have ha_17 : a_17 0 = h := by rw [he_17]; exact (upR_n (by decide)).trans ha_16
  refine pg_aload_n C (i := 0) rfl 0 rfl dX12_init_143 ?_
  refine pg_a0 (a := a_17) (by exact ha_17) ?_
  refine pg_sipush C (x := nI 4848) rfl dX12_init_144 ?_
  refine pg_rowI C hin 17 (k := 25) (by decide) rfl (by decide +kernel) rfl rfl (by decide) (mWs_in 5 rfl) mL_places rfl (by decide +kernel) (by decide +kernel) (Nat.le_of_ble_eq_true rfl) (Nat.le_of_ble_eq_true rfl) dX12_init_147 dX12_init_149 (fun q_18 => ?_)
  obtain ⟨a_18, he_18⟩ : ∃ a_, a_ = upR a_17 18 q_18 := ⟨_, rfl⟩
  rw [← he_18]
  have ha_18 : a_18 0 = h := by rw [he_18]; exact (upR_n (by decide)).trans ha_17
  refine pg_aload_n C (i := 0) rfl 0 rfl dX12_init_152 ?_
  refine pg_a0 (a := a_18) (by exact ha_18) ?_
  refine pg_sipush C (x := nI 20200) rfl dX12_init_153 ?_
  refine pg_rowI C hin 18 (k := 27) (by decide) rfl (by decide +kernel) rfl rfl (by decide) (mWs_in 5 rfl) mL_held rfl (by decide +kernel) (by decide +kernel) (Nat.le_of_ble_eq_true rfl) (Nat.le_of_ble_eq_true rfl) dX12_init_156 dX12_init_158 (fun q_19 => ?_)
  obtain ⟨a_19, he_19⟩ : ∃ a_, a_ = upR a_18 19 q_19 := ⟨_, rfl⟩
  rw [← he_19]
  have ha_19 : a_19 0 = h := by rw [he_19]; exact (upR_n (by decide)).trans ha_18
  refine pg_aload_n C (i := 0) rfl 0 rfl dX12_init_161 ?_
  refine pg_a0 (a := a_19) (by exact ha_19) ?_
  refine pg_sipush C (x := nI 202) rfl dX12_init_162 ?_
  refine pg_rowI C hin 19 (k := 28) (by decide) rfl (by decide +kernel) rfl rfl (by decide) (mWs_in 5 rfl) mL_sizes rfl (by decide +kernel) (by decide +kernel) (Nat.le_of_ble_eq_true rfl) (Nat.le_of_ble_eq_true rfl) dX12_init_165 dX12_init_167 (fun q_20 => ?_)
  obtain ⟨a_20, he_20⟩ : ∃ a_, a_ = upR a_19 20 q_20 := ⟨_, rfl⟩
  rw [← he_20]
  have ha_20 : a_20 0 = h := by rw [he_20]; exact (upR_n (by decide)).trans ha_19
  refine pg_aload_n C (i := 0) rfl 0 rfl dX12_init_170 ?_
  refine pg_a0 (a := a_20) (by exact ha_20) ?_
  refine pg_sipush C (x := nI 20200) rfl dX12_init_171 ?_
  refine pg_rowZ C hin 20 (k := 30) (by decide) rfl (by decide +kernel) rfl rfl (by decide) (mWs_in 26 rfl) mL_live rfl (by decide +kernel) (by decide +kernel) (Nat.le_of_ble_eq_true rfl) (Nat.le_of_ble_eq_true rfl) dX12_init_174 dX12_init_176 (fun q_21 => ?_)
  obtain ⟨a_21, he_21⟩ : ∃ a_, a_ = upR a_20 21 q_21 := ⟨_, rfl⟩
  rw [← he_21]
  have ha_21 : a_21 0 = h := by rw [he_21]; exact (upR_n (by decide)).trans ha_20
  refine pg_aload_n C (i := 0) rfl 0 rfl dX12_init_179 ?_
  refine pg_a0 (a := a_21) (by exact ha_21) ?_
  refine pg_sipush C (x := nI 20200) rfl dX12_init_180 ?_
  refine pg_rowZ C hin 21 (k := 31) (by decide) rfl (by decide +kernel) rfl rfl (by decide) (mWs_in 26 rfl) mL_wrote rfl (by decide +kernel) (by decide +kernel) (Nat.le_of_ble_eq_true rfl) (Nat.le_of_ble_eq_true rfl) dX12_init_183 dX12_init_185 (fun q_22 => ?_)
  obtain ⟨a_22, he_22⟩ : ∃ a_, a_ = upR a_21 22 q_22 := ⟨_, rfl⟩
  rw [← he_22]
  have ha_22 : a_22 0 = h := by rw [he_22]; exact (upR_n (by decide)).trans ha_21
  refine pg_aload_n C (i := 0) rfl 0 rfl dX12_init_188 ?_
  refine pg_a0 (a := a_22) (by exact ha_22) ?_
  refine pg_sipush C (x := nI 20200) rfl dX12_init_189 ?_
  refine pg_rowZ C hin 22 (k := 32) (by decide) rfl (by decide +kernel) rfl rfl (by decide) (mWs_in 26 rfl) mL_wroteAhead rfl (by decide +kernel) (by decide +kernel) (Nat.le_of_ble_eq_true rfl) (Nat.le_of_ble_eq_true rfl) dX12_init_192 dX12_init_194 (fun q_23 => ?_)
  obtain ⟨a_23, he_23⟩ : ∃ a_, a_ = upR a_22 23 q_23 := ⟨_, rfl⟩
  rw [← he_23]
  have ha_23 : a_23 0 = h := by rw [he_23]; exact (upR_n (by decide)).trans ha_22
  refine pg_aload_n C (i := 0) rfl 0 rfl dX12_init_197 ?_
  refine pg_a0 (a := a_23) (by exact ha_23) ?_
  refine pg_sipush C (x := nI 202) rfl dX12_init_198 ?_
  refine pg_rowI C hin 23 (k := 33) (by decide) rfl (by decide +kernel) rfl rfl (by decide) (mWs_in 5 rfl) mL_index rfl (by decide +kernel) (by decide +kernel) (Nat.le_of_ble_eq_true rfl) (Nat.le_of_ble_eq_true rfl) dX12_init_201 dX12_init_203 (fun q_24 => ?_)
  obtain ⟨a_24, he_24⟩ : ∃ a_, a_ = upR a_23 24 q_24 := ⟨_, rfl⟩
  rw [← he_24]
  have ha_24 : a_24 0 = h := by rw [he_24]; exact (upR_n (by decide)).trans ha_23
  refine pg_aload_n C (i := 0) rfl 0 rfl dX12_init_206 ?_
  refine pg_a0 (a := a_24) (by exact ha_24) ?_
  refine pg_sipush C (x := nI 202) rfl dX12_init_207 ?_
  refine pg_rowI C hin 24 (k := 36) (by decide) rfl (by decide +kernel) rfl rfl (by decide) (mWs_in 5 rfl) mL_committed rfl (by decide +kernel) (by decide +kernel) (Nat.le_of_ble_eq_true rfl) (Nat.le_of_ble_eq_true rfl) dX12_init_210 dX12_init_212 (fun q_25 => ?_)
  obtain ⟨a_25, he_25⟩ : ∃ a_, a_ = upR a_24 25 q_25 := ⟨_, rfl⟩
  rw [← he_25]
  have ha_25 : a_25 0 = h := by rw [he_25]; exact (upR_n (by decide)).trans ha_24
  refine pg_aload_n C (i := 0) rfl 0 rfl dX12_init_215 ?_
  refine pg_a0 (a := a_25) (by exact ha_25) ?_
  refine pg_sipush C (x := nI 20200) rfl dX12_init_216 ?_
  refine pg_rowZ C hin 25 (k := 38) (by decide) rfl (by decide +kernel) rfl rfl (by decide) (mWs_in 26 rfl) mL_committedLive rfl (by decide +kernel) (by decide +kernel) (Nat.le_of_ble_eq_true rfl) (Nat.le_of_ble_eq_true rfl) dX12_init_219 dX12_init_221 (fun q_26 => ?_)
  obtain ⟨a_26, he_26⟩ : ∃ a_, a_ = upR a_25 26 q_26 := ⟨_, rfl⟩
  rw [← he_26]
  have ha_26 : a_26 0 = h := by rw [he_26]; exact (upR_n (by decide)).trans ha_25
  refine pg_aload_n C (i := 0) rfl 0 rfl dX12_init_224 ?_
  refine pg_a0 (a := a_26) (by exact ha_26) ?_
  refine pg_sipush C (x := nI 202) rfl dX12_init_225 ?_
  refine pg_rowI C hin 26 (k := 41) (by decide) rfl (by decide +kernel) rfl rfl (by decide) (mWs_in 5 rfl) mL_prepared rfl (by decide +kernel) (by decide +kernel) (Nat.le_of_ble_eq_true rfl) (Nat.le_of_ble_eq_true rfl) dX12_init_228 dX12_init_230 (fun q_27 => ?_)
  obtain ⟨a_27, he_27⟩ : ∃ a_, a_ = upR a_26 27 q_27 := ⟨_, rfl⟩
  rw [← he_27]
  have ha_27 : a_27 0 = h := by rw [he_27]; exact (upR_n (by decide)).trans ha_26
  refine pg_aload_n C (i := 0) rfl 0 rfl dX12_init_233 ?_
  refine pg_a0 (a := a_27) (by exact ha_27) ?_
  refine pg_sipush C (x := nI 20200) rfl dX12_init_234 ?_
  refine pg_rowZ C hin 27 (k := 43) (by decide) rfl (by decide +kernel) rfl rfl (by decide) (mWs_in 26 rfl) mL_preparedLive rfl (by decide +kernel) (by decide +kernel) (Nat.le_of_ble_eq_true rfl) (Nat.le_of_ble_eq_true rfl) dX12_init_237 dX12_init_239 (fun q_28 => ?_)
  obtain ⟨a_28, he_28⟩ : ∃ a_, a_ = upR a_27 28 q_28 := ⟨_, rfl⟩
  rw [← he_28]
  have ha_28 : a_28 0 = h := by rw [he_28]; exact (upR_n (by decide)).trans ha_27
  refine pg_aload_n C (i := 0) rfl 0 rfl dX12_init_242 ?_
  refine pg_a0 (a := a_28) (by exact ha_28) ?_
  refine pg_iconst C (x := nI 5) rfl dX12_init_243 ?_
  refine pg_rowI C hin 28 (k := 44) (by decide) rfl (by decide +kernel) rfl rfl (by decide) (mWs_in 5 rfl) mL_lookNumbers rfl (by decide +kernel) (by decide +kernel) (Nat.le_of_ble_eq_true rfl) (Nat.le_of_ble_eq_true rfl) dX12_init_244 dX12_init_246 (fun q_29 => ?_)
  obtain ⟨a_29, he_29⟩ : ∃ a_, a_ = upR a_28 29 q_29 := ⟨_, rfl⟩
  rw [← he_29]
  have ha_29 : a_29 0 = h := by rw [he_29]; exact (upR_n (by decide)).trans ha_28
  refine pg_aload_n C (i := 0) rfl 0 rfl dX12_init_249 ?_
  refine pg_a0 (a := a_29) (by exact ha_29) ?_
  refine pg_sipush C (x := nI 1010) rfl dX12_init_250 ?_
  refine pg_rowI C hin 29 (k := 45) (by decide) rfl (by decide +kernel) rfl rfl (by decide) (mWs_in 5 rfl) mL_looked rfl (by decide +kernel) (by decide +kernel) (Nat.le_of_ble_eq_true rfl) (Nat.le_of_ble_eq_true rfl) dX12_init_253 dX12_init_255 (fun q_30 => ?_)
  obtain ⟨a_30, he_30⟩ : ∃ a_, a_ = upR a_29 30 q_30 := ⟨_, rfl⟩
  rw [← he_30]
  have ha_30 : a_30 0 = h := by rw [he_30]; exact (upR_n (by decide)).trans ha_29
  refine pg_aload_n C (i := 0) rfl 0 rfl dX12_init_258 ?_
  refine pg_a0 (a := a_30) (by exact ha_30) ?_
  refine pg_iconst C (x := nI 5) rfl dX12_init_259 ?_
  refine pg_rowI C hin 30 (k := 46) (by decide) rfl (by decide +kernel) rfl rfl (by decide) (mWs_in 5 rfl) mL_lookedMany rfl (by decide +kernel) (by decide +kernel) (Nat.le_of_ble_eq_true rfl) (Nat.le_of_ble_eq_true rfl) dX12_init_260 dX12_init_262 (fun q_31 => ?_)
  obtain ⟨a_31, he_31⟩ : ∃ a_, a_ = upR a_30 31 q_31 := ⟨_, rfl⟩
  rw [← he_31]
  have ha_31 : a_31 0 = h := by rw [he_31]; exact (upR_n (by decide)).trans ha_30
  refine pg_aload_n C (i := 0) rfl 0 rfl dX12_init_265 ?_
  refine pg_a0 (a := a_31) (by exact ha_31) ?_
  refine pg_ldc C (x := nI 101000) (mWs_in 38 rfl) dX12_init_266 ?_
  refine pg_rowZ C hin 31 (k := 47) (by decide) rfl (by decide +kernel) rfl rfl (by decide) (mWs_in 26 rfl) mL_lookedLive rfl (by decide +kernel) (by decide +kernel) (Nat.le_of_ble_eq_true rfl) (Nat.le_of_ble_eq_true rfl) dX12_init_268 dX12_init_270 (fun q_32 => ?_)
  obtain ⟨a_32, he_32⟩ : ∃ a_, a_ = upR a_31 32 q_32 := ⟨_, rfl⟩
  rw [← he_32]
  have ha_32 : a_32 0 = h := by rw [he_32]; exact (upR_n (by decide)).trans ha_31
  refine pg_aload_n C (i := 0) rfl 0 rfl dX12_init_273 ?_
  refine pg_a0 (a := a_32) (by exact ha_32) ?_
  refine pg_iconst C (x := nI 3) rfl dX12_init_274 ?_
  refine pg_rowI C hin 32 (k := 50) (by decide) rfl (by decide +kernel) rfl rfl (by decide) (mWs_in 5 rfl) mL_sources rfl (by decide +kernel) (by decide +kernel) (Nat.le_of_ble_eq_true rfl) (Nat.le_of_ble_eq_true rfl) dX12_init_275 dX12_init_277 (fun q_33 => ?_)
  obtain ⟨a_33, he_33⟩ : ∃ a_, a_ = upR a_32 33 q_33 := ⟨_, rfl⟩
  rw [← he_33]
  have ha_33 : a_33 0 = h := by rw [he_33]; exact (upR_n (by decide)).trans ha_32
  refine pg_aload_n C (i := 0) rfl 0 rfl dX12_init_280 ?_
  refine pg_a0 (a := a_33) (by exact ha_33) ?_
  refine pg_bipush C (x := nI 100) rfl dX12_init_281 ?_
  refine pg_rowI C hin 33 (k := 51) (by decide) rfl (by decide +kernel) rfl rfl (by decide) (mWs_in 5 rfl) mL_copies rfl (by decide +kernel) (by decide +kernel) (Nat.le_of_ble_eq_true rfl) (Nat.le_of_ble_eq_true rfl) dX12_init_283 dX12_init_285 (fun q_34 => ?_)
  obtain ⟨a_34, he_34⟩ : ∃ a_, a_ = upR a_33 34 q_34 := ⟨_, rfl⟩
  rw [← he_34]
  have ha_34 : a_34 0 = h := by rw [he_34]; exact (upR_n (by decide)).trans ha_33
  refine pg_aload_n C (i := 0) rfl 0 rfl dX12_init_288 ?_
  refine pg_a0 (a := a_34) (by exact ha_34) ?_
  refine pg_sipush C (x := nI 2200) rfl dX12_init_289 ?_
  refine pg_rowJ C hin 34 (k := 54) (by decide) rfl (by decide +kernel) rfl rfl (by decide) (mWs_in 3 rfl) mL_found rfl (by decide +kernel) (by decide +kernel) (Nat.le_of_ble_eq_true rfl) (Nat.le_of_ble_eq_true rfl) dX12_init_292 dX12_init_294 (fun q_35 => ?_)
  obtain ⟨a_35, he_35⟩ : ∃ a_, a_ = upR a_34 35 q_35 := ⟨_, rfl⟩
  rw [← he_35]
  have ha_35 : a_35 0 = h := by rw [he_35]; exact (upR_n (by decide)).trans ha_34
  refine pg_aload_n C (i := 0) rfl 0 rfl dX12_init_297 ?_
  refine pg_a0 (a := a_35) (by exact ha_35) ?_
  refine pg_sipush C (x := nI 2300) rfl dX12_init_298 ?_
  refine pg_rowI C hin 35 (k := 56) (by decide) rfl (by decide +kernel) rfl rfl (by decide) (mWs_in 5 rfl) mL_plain rfl (by decide +kernel) (by decide +kernel) (Nat.le_of_ble_eq_true rfl) (Nat.le_of_ble_eq_true rfl) dX12_init_301 dX12_init_303 (fun q_36 => ?_)
  obtain ⟨a_36, he_36⟩ : ∃ a_, a_ = upR a_35 36 q_36 := ⟨_, rfl⟩
  rw [← he_36]
  have ha_36 : a_36 0 = h := by rw [he_36]; exact (upR_n (by decide)).trans ha_35
  refine pg_aload_n C (i := 0) rfl 0 rfl dX12_init_306 ?_
  refine pg_a0 (a := a_36) (by exact ha_36) ?_
  refine pg_sipush C (x := nI 2400) rfl dX12_init_307 ?_
  refine pg_rowI C hin 36 (k := 57) (by decide) rfl (by decide +kernel) rfl rfl (by decide) (mWs_in 5 rfl) mL_packed rfl (by decide +kernel) (by decide +kernel) (Nat.le_of_ble_eq_true rfl) (Nat.le_of_ble_eq_true rfl) dX12_init_310 dX12_init_312 (fun q_37 => ?_)
  obtain ⟨a_37, he_37⟩ : ∃ a_, a_ = upR a_36 37 q_37 := ⟨_, rfl⟩
  rw [← he_37]
  have ha_37 : a_37 0 = h := by rw [he_37]; exact (upR_n (by decide)).trans ha_36
  refine pg_aload_n C (i := 0) rfl 0 rfl dX12_init_315 ?_
  refine pg_a0 (a := a_37) (by exact ha_37) ?_
  refine pg_sipush C (x := nI 2424) rfl dX12_init_316 ?_
  refine pg_rowI C hin 37 (k := 59) (by decide) rfl (by decide +kernel) rfl rfl (by decide) (mWs_in 5 rfl) mL_alive rfl (by decide +kernel) (by decide +kernel) (Nat.le_of_ble_eq_true rfl) (Nat.le_of_ble_eq_true rfl) dX12_init_319 dX12_init_321 (fun q_38 => ?_)
  obtain ⟨a_38, he_38⟩ : ∃ a_, a_ = upR a_37 38 q_38 := ⟨_, rfl⟩
  rw [← he_38]
  have ha_38 : a_38 0 = h := by rw [he_38]; exact (upR_n (by decide)).trans ha_37
  refine pg_aload_n C (i := 0) rfl 0 rfl dX12_init_324 ?_
  refine pg_a0 (a := a_38) (by exact ha_38) ?_
  refine pg_sipush C (x := nI 2424) rfl dX12_init_325 ?_
  refine pg_rowI C hin 38 (k := 61) (by decide) rfl (by decide +kernel) rfl rfl (by decide) (mWs_in 5 rfl) mL_sorted rfl (by decide +kernel) (by decide +kernel) (Nat.le_of_ble_eq_true rfl) (Nat.le_of_ble_eq_true rfl) dX12_init_328 dX12_init_330 (fun q_39 => ?_)
  obtain ⟨a_39, he_39⟩ : ∃ a_, a_ = upR a_38 39 q_39 := ⟨_, rfl⟩
  rw [← he_39]
  have ha_39 : a_39 0 = h := by rw [he_39]; exact (upR_n (by decide)).trans ha_38
  refine pg_aload_n C (i := 0) rfl 0 rfl dX12_init_333 ?_
  refine pg_a0 (a := a_39) (by exact ha_39) ?_
  refine pg_sipush C (x := nI 1968) rfl dX12_init_334 ?_
  refine pg_rowI C hin 39 (k := 62) (by decide) rfl (by decide +kernel) rfl rfl (by decide) (mWs_in 5 rfl) mL_kinds rfl (by decide +kernel) (by decide +kernel) (Nat.le_of_ble_eq_true rfl) (Nat.le_of_ble_eq_true rfl) dX12_init_337 dX12_init_339 (fun q_40 => ?_)
  obtain ⟨a_40, he_40⟩ : ∃ a_, a_ = upR a_39 40 q_40 := ⟨_, rfl⟩
  rw [← he_40]
  have ha_40 : a_40 0 = h := by rw [he_40]; exact (upR_n (by decide)).trans ha_39
  refine pg_aload_n C (i := 0) rfl 0 rfl dX12_init_342 ?_
  refine pg_a0 (a := a_40) (by exact ha_40) ?_
  refine pg_sipush C (x := nI 1968) rfl dX12_init_343 ?_
  refine pg_rowI C hin 40 (k := 63) (by decide) rfl (by decide +kernel) rfl rfl (by decide) (mWs_in 5 rfl) mL_fields rfl (by decide +kernel) (by decide +kernel) (Nat.le_of_ble_eq_true rfl) (Nat.le_of_ble_eq_true rfl) dX12_init_346 dX12_init_348 (fun q_41 => ?_)
  obtain ⟨a_41, he_41⟩ : ∃ a_, a_ = upR a_40 41 q_41 := ⟨_, rfl⟩
  rw [← he_41]
  have ha_41 : a_41 0 = h := by rw [he_41]; exact (upR_n (by decide)).trans ha_40
  refine pg_aload_n C (i := 0) rfl 0 rfl dX12_init_351 ?_
  refine pg_a0 (a := a_41) (by exact ha_41) ?_
  refine pg_sipush C (x := nI 1968) rfl dX12_init_352 ?_
  refine pg_rowI C hin 41 (k := 64) (by decide) rfl (by decide +kernel) rfl rfl (by decide) (mWs_in 5 rfl) mL_amounts rfl (by decide +kernel) (by decide +kernel) (Nat.le_of_ble_eq_true rfl) (Nat.le_of_ble_eq_true rfl) dX12_init_355 dX12_init_357 (fun q_42 => ?_)
  obtain ⟨a_42, he_42⟩ : ∃ a_, a_ = upR a_41 42 q_42 := ⟨_, rfl⟩
  rw [← he_42]
  have ha_42 : a_42 0 = h := by rw [he_42]; exact (upR_n (by decide)).trans ha_41
  refine pg_aload_n C (i := 0) rfl 0 rfl dX12_init_360 ?_
  refine pg_a0 (a := a_42) (by exact ha_42) ?_
  refine pg_sipush C (x := nI 1968) rfl dX12_init_361 ?_
  refine pg_rowZ C hin 42 (k := 65) (by decide) rfl (by decide +kernel) rfl rfl (by decide) (mWs_in 26 rfl) mL_ordered rfl (by decide +kernel) (by decide +kernel) (Nat.le_of_ble_eq_true rfl) (Nat.le_of_ble_eq_true rfl) dX12_init_364 dX12_init_366 (fun q_43 => ?_)
  obtain ⟨a_43, he_43⟩ : ∃ a_, a_ = upR a_42 43 q_43 := ⟨_, rfl⟩
  rw [← he_43]
  have ha_43 : a_43 0 = h := by rw [he_43]; exact (upR_n (by decide)).trans ha_42
  refine pg_aload_n C (i := 0) rfl 0 rfl dX12_init_369 ?_
  refine pg_a0 (a := a_43) (by exact ha_43) ?_
  refine pg_sipush C (x := nI 1968) rfl dX12_init_370 ?_
  refine pg_rowI C hin 43 (k := 66) (by decide) rfl (by decide +kernel) rfl rfl (by decide) (mWs_in 5 rfl) mL_many rfl (by decide +kernel) (by decide +kernel) (Nat.le_of_ble_eq_true rfl) (Nat.le_of_ble_eq_true rfl) dX12_init_373 dX12_init_375 (fun q_44 => ?_)
  obtain ⟨a_44, he_44⟩ : ∃ a_, a_ = upR a_43 44 q_44 := ⟨_, rfl⟩
  rw [← he_44]
  have ha_44 : a_44 0 = h := by rw [he_44]; exact (upR_n (by decide)).trans ha_43
  refine pg_aload_n C (i := 0) rfl 0 rfl dX12_init_378 ?_
  refine pg_a0 (a := a_44) (by exact ha_44) ?_
  refine pg_sipush C (x := nI 11808) rfl dX12_init_379 ?_
  refine pg_rowJ C hin 44 (k := 67) (by decide) rfl (by decide +kernel) rfl rfl (by decide) (mWs_in 3 rfl) mL_leafTokens rfl (by decide +kernel) (by decide +kernel) (Nat.le_of_ble_eq_true rfl) (Nat.le_of_ble_eq_true rfl) dX12_init_382 dX12_init_384 (fun q_45 => ?_)
  obtain ⟨a_45, he_45⟩ : ∃ a_, a_ = upR a_44 45 q_45 := ⟨_, rfl⟩
  rw [← he_45]
  have ha_45 : a_45 0 = h := by rw [he_45]; exact (upR_n (by decide)).trans ha_44
  refine pg_aload_n C (i := 0) rfl 0 rfl dX12_init_387 ?_
  refine pg_a0 (a := a_45) (by exact ha_45) ?_
  refine pg_sipush C (x := nI 11808) rfl dX12_init_388 ?_
  refine pg_rowI C hin 45 (k := 68) (by decide) rfl (by decide +kernel) rfl rfl (by decide) (mWs_in 5 rfl) mL_leafPlaces rfl (by decide +kernel) (by decide +kernel) (Nat.le_of_ble_eq_true rfl) (Nat.le_of_ble_eq_true rfl) dX12_init_391 dX12_init_393 (fun q_46 => ?_)
  obtain ⟨a_46, he_46⟩ : ∃ a_, a_ = upR a_45 46 q_46 := ⟨_, rfl⟩
  rw [← he_46]
  have ha_46 : a_46 0 = h := by rw [he_46]; exact (upR_n (by decide)).trans ha_45
  refine pg_aload_n C (i := 0) rfl 0 rfl dX12_init_396 ?_
  refine pg_a0 (a := a_46) (by exact ha_46) ?_
  refine pg_sipush C (x := nI 23616) rfl dX12_init_397 ?_
  refine pg_rowI C hin 46 (k := 69) (by decide) rfl (by decide +kernel) rfl rfl (by decide) (mWs_in 5 rfl) mL_wilds rfl (by decide +kernel) (by decide +kernel) (Nat.le_of_ble_eq_true rfl) (Nat.le_of_ble_eq_true rfl) dX12_init_400 dX12_init_402 (fun q_47 => ?_)
  obtain ⟨a_47, he_47⟩ : ∃ a_, a_ = upR a_46 47 q_47 := ⟨_, rfl⟩
  rw [← he_47]
  have ha_47 : a_47 0 = h := by rw [he_47]; exact (upR_n (by decide)).trans ha_46
  refine pg_aload_n C (i := 0) rfl 0 rfl dX12_init_405 ?_
  refine pg_a0 (a := a_47) (by exact ha_47) ?_
  refine pg_bipush C (x := nI 41) rfl dX12_init_406 ?_
  refine pg_rowI C hin 47 (k := 70) (by decide) rfl (by decide +kernel) rfl rfl (by decide) (mWs_in 5 rfl) mL_opsMany rfl (by decide +kernel) (by decide +kernel) (Nat.le_of_ble_eq_true rfl) (Nat.le_of_ble_eq_true rfl) dX12_init_408 dX12_init_410 (fun q_48 => ?_)
  obtain ⟨a_48, he_48⟩ : ∃ a_, a_ = upR a_47 48 q_48 := ⟨_, rfl⟩
  rw [← he_48]
  have ha_48 : a_48 0 = h := by rw [he_48]; exact (upR_n (by decide)).trans ha_47
  refine pg_aload_n C (i := 0) rfl 0 rfl dX12_init_413 ?_
  refine pg_a0 (a := a_48) (by exact ha_48) ?_
  refine pg_iconst C (x := nI 2) rfl dX12_init_414 ?_
  refine pg_rowI C hin 48 (k := 74) (by decide) rfl (by decide +kernel) rfl rfl (by decide) (mWs_in 5 rfl) mL_weights rfl (by decide +kernel) (by decide +kernel) (Nat.le_of_ble_eq_true rfl) (Nat.le_of_ble_eq_true rfl) dX12_init_415 dX12_init_417 (fun q_49 => ?_)
  obtain ⟨a_49, he_49⟩ : ∃ a_, a_ = upR a_48 49 q_49 := ⟨_, rfl⟩
  rw [← he_49]
  have ha_49 : a_49 0 = h := by rw [he_49]; exact (upR_n (by decide)).trans ha_48
  refine pg_aload_n C (i := 0) rfl 0 rfl dX12_init_420 ?_
  refine pg_a0 (a := a_49) (by exact ha_49) ?_
  refine pg_bipush C (x := nI 20) rfl dX12_init_421 ?_
  refine pg_rowJ C hin 49 (k := 75) (by decide) rfl (by decide +kernel) rfl rfl (by decide) (mWs_in 3 rfl) mL_tokens rfl (by decide +kernel) (by decide +kernel) (Nat.le_of_ble_eq_true rfl) (Nat.le_of_ble_eq_true rfl) dX12_init_423 dX12_init_425 (fun q_50 => ?_)
  obtain ⟨a_50, he_50⟩ : ∃ a_, a_ = upR a_49 50 q_50 := ⟨_, rfl⟩
  rw [← he_50]
  have ha_50 : a_50 0 = h := by rw [he_50]; exact (upR_n (by decide)).trans ha_49
  refine pg_aload_n C (i := 0) rfl 0 rfl dX12_init_428 ?_
  refine pg_a0 (a := a_50) (by exact ha_50) ?_
  refine pg_bipush C (x := nI 20) rfl dX12_init_429 ?_
  refine pg_rowI C hin 50 (k := 76) (by decide) rfl (by decide +kernel) rfl rfl (by decide) (mWs_in 5 rfl) mL_tokenPlaces rfl (by decide +kernel) (by decide +kernel) (Nat.le_of_ble_eq_true rfl) (Nat.le_of_ble_eq_true rfl) dX12_init_431 dX12_init_433 (fun q_51 => ?_)
  obtain ⟨a_51, he_51⟩ : ∃ a_, a_ = upR a_50 51 q_51 := ⟨_, rfl⟩
  rw [← he_51]
  have ha_51 : a_51 0 = h := by rw [he_51]; exact (upR_n (by decide)).trans ha_50
  refine pg_aload_n C (i := 0) rfl 0 rfl dX12_init_436 ?_
  refine pg_a0 (a := a_51) (by exact ha_51) ?_
  refine pg_bipush C (x := nI 14) rfl dX12_init_437 ?_
  refine pg_rowI C hin 51 (k := 78) (by decide) rfl (by decide +kernel) rfl rfl (by decide) (mWs_in 5 rfl) mL_row rfl (by decide +kernel) (by decide +kernel) (Nat.le_of_ble_eq_true rfl) (Nat.le_of_ble_eq_true rfl) dX12_init_439 dX12_init_441 (fun q_52 => ?_)
  obtain ⟨a_52, he_52⟩ : ∃ a_, a_ = upR a_51 52 q_52 := ⟨_, rfl⟩
  rw [← he_52]
  have ha_52 : a_52 0 = h := by rw [he_52]; exact (upR_n (by decide)).trans ha_51
  refine pg_aload_n C (i := 0) rfl 0 rfl dX12_init_444 ?_
  refine pg_a0 (a := a_52) (by exact ha_52) ?_
  refine pg_bipush C (x := nI 14) rfl dX12_init_445 ?_
  refine pg_rowI C hin 52 (k := 79) (by decide) rfl (by decide +kernel) rfl rfl (by decide) (mWs_in 5 rfl) mL_next rfl (by decide +kernel) (by decide +kernel) (Nat.le_of_ble_eq_true rfl) (Nat.le_of_ble_eq_true rfl) dX12_init_447 dX12_init_449 (fun q_53 => ?_)
  obtain ⟨a_53, he_53⟩ : ∃ a_, a_ = upR a_52 53 q_53 := ⟨_, rfl⟩
  rw [← he_53]
  have ha_53 : a_53 0 = h := by rw [he_53]; exact (upR_n (by decide)).trans ha_52
  refine pg_aload_n C (i := 0) rfl 0 rfl dX12_init_452 ?_
  refine pg_a0 (a := a_53) (by exact ha_53) ?_
  refine pg_bipush C (x := nI 50) rfl dX12_init_453 ?_
  refine pg_rowI C hin 53 (k := 80) (by decide) rfl (by decide +kernel) rfl rfl (by decide) (mWs_in 5 rfl) mL_pile rfl (by decide +kernel) (by decide +kernel) (Nat.le_of_ble_eq_true rfl) (Nat.le_of_ble_eq_true rfl) dX12_init_455 dX12_init_457 (fun q_54 => ?_)
  obtain ⟨a_54, he_54⟩ : ∃ a_, a_ = upR a_53 54 q_54 := ⟨_, rfl⟩
  rw [← he_54]
  have ha_54 : a_54 0 = h := by rw [he_54]; exact (upR_n (by decide)).trans ha_53
  refine pg_aload_n C (i := 0) rfl 0 rfl dX12_init_460 ?_
  refine pg_a0 (a := a_54) (by exact ha_54) ?_
  refine pg_bipush C (x := nI 48) rfl dX12_init_461 ?_
  refine pg_rowI C hin 54 (k := 81) (by decide) rfl (by decide +kernel) rfl rfl (by decide) (mWs_in 5 rfl) mL_gains rfl (by decide +kernel) (by decide +kernel) (Nat.le_of_ble_eq_true rfl) (Nat.le_of_ble_eq_true rfl) dX12_init_463 dX12_init_465 (fun q_55 => ?_)
  obtain ⟨a_55, he_55⟩ : ∃ a_, a_ = upR a_54 55 q_55 := ⟨_, rfl⟩
  rw [← he_55]
  have ha_55 : a_55 0 = h := by rw [he_55]; exact (upR_n (by decide)).trans ha_54
  refine pg_aload_n C (i := 0) rfl 0 rfl dX12_init_468 ?_
  refine pg_a0 (a := a_55) (by exact ha_55) ?_
  refine pg_bipush C (x := nI 48) rfl dX12_init_469 ?_
  refine pg_rowZ C hin 55 (k := 82) (by decide) rfl (by decide +kernel) rfl rfl (by decide) (mWs_in 26 rfl) mL_inSecond rfl (by decide +kernel) (by decide +kernel) (Nat.le_of_ble_eq_true rfl) (Nat.le_of_ble_eq_true rfl) dX12_init_471 dX12_init_473 (fun q_56 => ?_)
  obtain ⟨a_56, he_56⟩ : ∃ a_, a_ = upR a_55 56 q_56 := ⟨_, rfl⟩
  rw [← he_56]
  have ha_56 : a_56 0 = h := by rw [he_56]; exact (upR_n (by decide)).trans ha_55
  refine pg_aload_n C (i := 0) rfl 0 rfl dX12_init_476 ?_
  refine pg_a0 (a := a_56) (by exact ha_56) ?_
  refine pg_bipush C (x := nI 8) rfl dX12_init_477 ?_
  refine pg_rowI C hin 56 (k := 83) (by decide) rfl (by decide +kernel) rfl rfl (by decide) (mWs_in 5 rfl) mL_cacheQueries rfl (by decide +kernel) (by decide +kernel) (Nat.le_of_ble_eq_true rfl) (Nat.le_of_ble_eq_true rfl) dX12_init_479 dX12_init_481 (fun q_57 => ?_)
  obtain ⟨a_57, he_57⟩ : ∃ a_, a_ = upR a_56 57 q_57 := ⟨_, rfl⟩
  rw [← he_57]
  have ha_57 : a_57 0 = h := by rw [he_57]; exact (upR_n (by decide)).trans ha_56
  refine pg_aload_n C (i := 0) rfl 0 rfl dX12_init_484 ?_
  refine pg_a0 (a := a_57) (by exact ha_57) ?_
  refine pg_bipush C (x := nI 8) rfl dX12_init_485 ?_
  refine pg_rowI C hin 57 (k := 84) (by decide) rfl (by decide +kernel) rfl rfl (by decide) (mWs_in 5 rfl) mL_cacheSegments rfl (by decide +kernel) (by decide +kernel) (Nat.le_of_ble_eq_true rfl) (Nat.le_of_ble_eq_true rfl) dX12_init_487 dX12_init_489 (fun q_58 => ?_)
  obtain ⟨a_58, he_58⟩ : ∃ a_, a_ = upR a_57 58 q_58 := ⟨_, rfl⟩
  rw [← he_58]
  have ha_58 : a_58 0 = h := by rw [he_58]; exact (upR_n (by decide)).trans ha_57
  refine pg_aload_n C (i := 0) rfl 0 rfl dX12_init_492 ?_
  refine pg_a0 (a := a_58) (by exact ha_58) ?_
  refine pg_bipush C (x := nI 20) rfl dX12_init_493 ?_
  refine pg_rowI C hin 58 (k := 86) (by decide) rfl (by decide +kernel) rfl rfl (by decide) (mWs_in 5 rfl) mL_hitKeys rfl (by decide +kernel) (by decide +kernel) (Nat.le_of_ble_eq_true rfl) (Nat.le_of_ble_eq_true rfl) dX12_init_495 dX12_init_497 (fun q_59 => ?_)
  obtain ⟨a_59, he_59⟩ : ∃ a_, a_ = upR a_58 59 q_59 := ⟨_, rfl⟩
  rw [← he_59]
  have ha_59 : a_59 0 = h := by rw [he_59]; exact (upR_n (by decide)).trans ha_58
  refine pg_aload_n C (i := 0) rfl 0 rfl dX12_init_500 ?_
  refine pg_a0 (a := a_59) (by exact ha_59) ?_
  refine pg_bipush C (x := nI 20) rfl dX12_init_501 ?_
  refine pg_rowI C hin 59 (k := 87) (by decide) rfl (by decide +kernel) rfl rfl (by decide) (mWs_in 5 rfl) mL_hitRanks rfl (by decide +kernel) (by decide +kernel) (Nat.le_of_ble_eq_true rfl) (Nat.le_of_ble_eq_true rfl) dX12_init_503 dX12_init_505 (fun q_60 => ?_)
  obtain ⟨a_60, he_60⟩ : ∃ a_, a_ = upR a_59 60 q_60 := ⟨_, rfl⟩
  rw [← he_60]
  have ha_60 : a_60 0 = h := by rw [he_60]; exact (upR_n (by decide)).trans ha_59
  refine pg_aload_n C (i := 0) rfl 0 rfl dX12_init_508 ?_
  refine pg_a0 (a := a_60) (by exact ha_60) ?_
  refine pg_bipush C (x := nI 48) rfl dX12_init_509 ?_
  refine pg_rowI C hin 60 (k := 91) (by decide) rfl (by decide +kernel) rfl rfl (by decide) (mWs_in 5 rfl) mL_marked rfl (by decide +kernel) (by decide +kernel) (Nat.le_of_ble_eq_true rfl) (Nat.le_of_ble_eq_true rfl) dX12_init_511 dX12_init_513 (fun q_61 => ?_)
  obtain ⟨a_61, he_61⟩ : ∃ a_, a_ = upR a_60 61 q_61 := ⟨_, rfl⟩
  rw [← he_61]
  have ha_61 : a_61 0 = h := by rw [he_61]; exact (upR_n (by decide)).trans ha_60
  refine pg_aload_n C (i := 0) rfl 0 rfl dX12_init_516 ?_
  refine pg_a0 (a := a_61) (by exact ha_61) ?_
  refine pg_bipush C (x := nI 20) rfl dX12_init_517 ?_
  refine pg_rowI C hin 61 (k := 93) (by decide) rfl (by decide +kernel) rfl rfl (by decide) (mWs_in 5 rfl) mL_choices rfl (by decide +kernel) (by decide +kernel) (Nat.le_of_ble_eq_true rfl) (Nat.le_of_ble_eq_true rfl) dX12_init_519 dX12_init_521 (fun q_62 => ?_)
  obtain ⟨a_62, he_62⟩ : ∃ a_, a_ = upR a_61 62 q_62 := ⟨_, rfl⟩
  rw [← he_62]
  have ha_62 : a_62 0 = h := by rw [he_62]; exact (upR_n (by decide)).trans ha_61
  refine pg_aload_n C (i := 0) rfl 0 rfl dX12_init_524 ?_
  refine pg_a0 (a := a_62) (by exact ha_62) ?_
  refine pg_bipush C (x := nI 20) rfl dX12_init_525 ?_
  refine pg_rowI C hin 62 (k := 94) (by decide) rfl (by decide +kernel) rfl rfl (by decide) (mWs_in 5 rfl) mL_picked rfl (by decide +kernel) (by decide +kernel) (Nat.le_of_ble_eq_true rfl) (Nat.le_of_ble_eq_true rfl) dX12_init_527 dX12_init_529 (fun q_63 => ?_)
  obtain ⟨a_63, he_63⟩ : ∃ a_, a_ = upR a_62 63 q_63 := ⟨_, rfl⟩
  rw [← he_63]
  have ha_63 : a_63 0 = h := by rw [he_63]; exact (upR_n (by decide)).trans ha_62
  refine pg_aload_n C (i := 0) rfl 0 rfl dX12_init_532 ?_
  refine pg_a0 (a := a_63) (by exact ha_63) ?_
  refine pg_bipush C (x := nI 20) rfl dX12_init_533 ?_
  refine pg_rowI C hin 63 (k := 95) (by decide) rfl (by decide +kernel) rfl rfl (by decide) (mWs_in 5 rfl) mL_chosen rfl (by decide +kernel) (by decide +kernel) (Nat.le_of_ble_eq_true rfl) (Nat.le_of_ble_eq_true rfl) dX12_init_535 dX12_init_537 (fun q_64 => ?_)
  obtain ⟨a_64, he_64⟩ : ∃ a_, a_ = upR a_63 64 q_64 := ⟨_, rfl⟩
  rw [← he_64]
  have ha_64 : a_64 0 = h := by rw [he_64]; exact (upR_n (by decide)).trans ha_63
  refine pg_all ?_
  refine ng_lv (lv' := [(0, .ref (a_64 0))]) (by rw [ha_64]) ?_
  refine ng_aload_n C (i := 0) rfl 0 rfl dX12_init_540 ?_
  refine ng_iconst C (x := (-1)) rfl dX12_init_541 ?_
  refine ng_put C (k := 97) (by decide) rfl mL_crash rfl (by decide +kernel) mT_crash rfl rfl dX12_init_542 ?_
  refine ng_lconst C (x := 1) rfl dX12_init_545 ?_
  refine ng_lstore_n C (i := 1) (lv' := [(1, .long 1), (0, .ref (a_64 0))]) rfl (Nat.le_of_ble_eq_true rfl) rfl dX12_init_546 ?_
  refine ng_bipush C (x := nI 11) rfl dX12_init_547 ?_
  refine ng_istore_n C (i := 3) (lv' := [(3, .int (nI 11)), (1, .long 1), (0, .ref (a_64 0))]) rfl (Nat.le_of_ble_eq_true rfl) rfl dX12_init_549 ?_
  refine ng_iload_n C (i := 3) rfl 0 rfl dX12_init_550 ?_
  refine ng_if_ltN C (by omega) 573 (by decide) dX12_init_551 ?_
  refine ng_aload_n C (i := 0) rfl 2 rfl dX12_init_554 ?_
  refine ng_arr C 1 (by decide) (by decide) rfl mL_powers rfl dX12_init_555 ?_
  refine ng_iload_n C (i := 3) rfl 0 rfl dX12_init_558 ?_
  refine ng_lload_n C (i := 1) rfl 1 rfl dX12_init_559 ?_
  refine ng_lastore C (n := 12) 1 11 (by decide) (by decide) rfl rfl (by omega) (by decide) dX12_init_560 ?_
  refine ng_lload_n C (i := 1) rfl 1 rfl dX12_init_561 ?_
  refine ng_ldc2 C (x := 37) mK_37 dX12_init_562 ?_
  refine ng_lmul C dX12_init_565 ?_
  refine ng_lstore_n C (i := 1) (lv' := [(1, .long (1 * 37)), (3, .int (nI 11)), (0, .ref (a_64 0))]) rfl (Nat.le_of_ble_eq_true rfl) rfl dX12_init_566 ?_
  refine ng_iinc C (lv' := [(3, .int (nI 10)), (1, .long (1 * 37)), (0, .ref (a_64 0))]) 1 rfl (by decide) (Nat.le_of_ble_eq_true rfl) rfl dX12_init_567 ?_
  refine ng_goto C 550 (by decide) dX12_init_570 ?_
  refine ng_iload_n C (i := 3) rfl 0 rfl dX12_init_550 ?_
  refine ng_if_ltN C (by omega) 573 (by decide) dX12_init_551 ?_
  refine ng_aload_n C (i := 0) rfl 2 rfl dX12_init_554 ?_
  refine ng_arr C 1 (by decide) (by decide) rfl mL_powers rfl dX12_init_555 ?_
  refine ng_iload_n C (i := 3) rfl 0 rfl dX12_init_558 ?_
  refine ng_lload_n C (i := 1) rfl 1 rfl dX12_init_559 ?_
  refine ng_lastore C (n := 12) 1 10 (by decide) (by decide) rfl rfl (by omega) (by decide) dX12_init_560 ?_
  refine ng_lload_n C (i := 1) rfl 1 rfl dX12_init_561 ?_
  refine ng_ldc2 C (x := 37) mK_37 dX12_init_562 ?_
  refine ng_lmul C dX12_init_565 ?_
  refine ng_lstore_n C (i := 1) (lv' := [(1, .long ((1 * 37) * 37)), (3, .int (nI 10)), (0, .ref (a_64 0))]) rfl (Nat.le_of_ble_eq_true rfl) rfl dX12_init_566 ?_
  refine ng_iinc C (lv' := [(3, .int (nI 9)), (1, .long ((1 * 37) * 37)), (0, .ref (a_64 0))]) 1 rfl (by decide) (Nat.le_of_ble_eq_true rfl) rfl dX12_init_567 ?_
  refine ng_goto C 550 (by decide) dX12_init_570 ?_
  refine ng_iload_n C (i := 3) rfl 0 rfl dX12_init_550 ?_
  refine ng_if_ltN C (by omega) 573 (by decide) dX12_init_551 ?_
  refine ng_aload_n C (i := 0) rfl 2 rfl dX12_init_554 ?_
  refine ng_arr C 1 (by decide) (by decide) rfl mL_powers rfl dX12_init_555 ?_
  refine ng_iload_n C (i := 3) rfl 0 rfl dX12_init_558 ?_
  refine ng_lload_n C (i := 1) rfl 1 rfl dX12_init_559 ?_
  refine ng_lastore C (n := 12) 1 9 (by decide) (by decide) rfl rfl (by omega) (by decide) dX12_init_560 ?_
  refine ng_lload_n C (i := 1) rfl 1 rfl dX12_init_561 ?_
  refine ng_ldc2 C (x := 37) mK_37 dX12_init_562 ?_
  refine ng_lmul C dX12_init_565 ?_
  refine ng_lstore_n C (i := 1) (lv' := [(1, .long (((1 * 37) * 37) * 37)), (3, .int (nI 9)), (0, .ref (a_64 0))]) rfl (Nat.le_of_ble_eq_true rfl) rfl dX12_init_566 ?_
  refine ng_iinc C (lv' := [(3, .int (nI 8)), (1, .long (((1 * 37) * 37) * 37)), (0, .ref (a_64 0))]) 1 rfl (by decide) (Nat.le_of_ble_eq_true rfl) rfl dX12_init_567 ?_
  refine ng_goto C 550 (by decide) dX12_init_570 ?_
  refine ng_iload_n C (i := 3) rfl 0 rfl dX12_init_550 ?_
  refine ng_if_ltN C (by omega) 573 (by decide) dX12_init_551 ?_
  refine ng_aload_n C (i := 0) rfl 2 rfl dX12_init_554 ?_
  refine ng_arr C 1 (by decide) (by decide) rfl mL_powers rfl dX12_init_555 ?_
  refine ng_iload_n C (i := 3) rfl 0 rfl dX12_init_558 ?_
  refine ng_lload_n C (i := 1) rfl 1 rfl dX12_init_559 ?_
  refine ng_lastore C (n := 12) 1 8 (by decide) (by decide) rfl rfl (by omega) (by decide) dX12_init_560 ?_
  refine ng_lload_n C (i := 1) rfl 1 rfl dX12_init_561 ?_
  refine ng_ldc2 C (x := 37) mK_37 dX12_init_562 ?_
  refine ng_lmul C dX12_init_565 ?_
  refine ng_lstore_n C (i := 1) (lv' := [(1, .long ((((1 * 37) * 37) * 37) * 37)), (3, .int (nI 8)), (0, .ref (a_64 0))]) rfl (Nat.le_of_ble_eq_true rfl) rfl dX12_init_566 ?_
  refine ng_iinc C (lv' := [(3, .int (nI 7)), (1, .long ((((1 * 37) * 37) * 37) * 37)), (0, .ref (a_64 0))]) 1 rfl (by decide) (Nat.le_of_ble_eq_true rfl) rfl dX12_init_567 ?_
  refine ng_goto C 550 (by decide) dX12_init_570 ?_
  refine ng_iload_n C (i := 3) rfl 0 rfl dX12_init_550 ?_
  refine ng_if_ltN C (by omega) 573 (by decide) dX12_init_551 ?_
  refine ng_aload_n C (i := 0) rfl 2 rfl dX12_init_554 ?_
  refine ng_arr C 1 (by decide) (by decide) rfl mL_powers rfl dX12_init_555 ?_
  refine ng_iload_n C (i := 3) rfl 0 rfl dX12_init_558 ?_
  refine ng_lload_n C (i := 1) rfl 1 rfl dX12_init_559 ?_
  refine ng_lastore C (n := 12) 1 7 (by decide) (by decide) rfl rfl (by omega) (by decide) dX12_init_560 ?_
  refine ng_lload_n C (i := 1) rfl 1 rfl dX12_init_561 ?_
  refine ng_ldc2 C (x := 37) mK_37 dX12_init_562 ?_
  refine ng_lmul C dX12_init_565 ?_
  refine ng_lstore_n C (i := 1) (lv' := [(1, .long (((((1 * 37) * 37) * 37) * 37) * 37)), (3, .int (nI 7)), (0, .ref (a_64 0))]) rfl (Nat.le_of_ble_eq_true rfl) rfl dX12_init_566 ?_
  refine ng_iinc C (lv' := [(3, .int (nI 6)), (1, .long (((((1 * 37) * 37) * 37) * 37) * 37)), (0, .ref (a_64 0))]) 1 rfl (by decide) (Nat.le_of_ble_eq_true rfl) rfl dX12_init_567 ?_
  refine ng_goto C 550 (by decide) dX12_init_570 ?_
  refine ng_iload_n C (i := 3) rfl 0 rfl dX12_init_550 ?_
  refine ng_if_ltN C (by omega) 573 (by decide) dX12_init_551 ?_
  refine ng_aload_n C (i := 0) rfl 2 rfl dX12_init_554 ?_
  refine ng_arr C 1 (by decide) (by decide) rfl mL_powers rfl dX12_init_555 ?_
  refine ng_iload_n C (i := 3) rfl 0 rfl dX12_init_558 ?_
  refine ng_lload_n C (i := 1) rfl 1 rfl dX12_init_559 ?_
  refine ng_lastore C (n := 12) 1 6 (by decide) (by decide) rfl rfl (by omega) (by decide) dX12_init_560 ?_
  refine ng_lload_n C (i := 1) rfl 1 rfl dX12_init_561 ?_
  refine ng_ldc2 C (x := 37) mK_37 dX12_init_562 ?_
  refine ng_lmul C dX12_init_565 ?_
  refine ng_lstore_n C (i := 1) (lv' := [(1, .long ((((((1 * 37) * 37) * 37) * 37) * 37) * 37)), (3, .int (nI 6)), (0, .ref (a_64 0))]) rfl (Nat.le_of_ble_eq_true rfl) rfl dX12_init_566 ?_
  refine ng_iinc C (lv' := [(3, .int (nI 5)), (1, .long ((((((1 * 37) * 37) * 37) * 37) * 37) * 37)), (0, .ref (a_64 0))]) 1 rfl (by decide) (Nat.le_of_ble_eq_true rfl) rfl dX12_init_567 ?_
  refine ng_goto C 550 (by decide) dX12_init_570 ?_
  refine ng_iload_n C (i := 3) rfl 0 rfl dX12_init_550 ?_
  refine ng_if_ltN C (by omega) 573 (by decide) dX12_init_551 ?_
  refine ng_aload_n C (i := 0) rfl 2 rfl dX12_init_554 ?_
  refine ng_arr C 1 (by decide) (by decide) rfl mL_powers rfl dX12_init_555 ?_
  refine ng_iload_n C (i := 3) rfl 0 rfl dX12_init_558 ?_
  refine ng_lload_n C (i := 1) rfl 1 rfl dX12_init_559 ?_
  refine ng_lastore C (n := 12) 1 5 (by decide) (by decide) rfl rfl (by omega) (by decide) dX12_init_560 ?_
  refine ng_lload_n C (i := 1) rfl 1 rfl dX12_init_561 ?_
  refine ng_ldc2 C (x := 37) mK_37 dX12_init_562 ?_
  refine ng_lmul C dX12_init_565 ?_
  refine ng_lstore_n C (i := 1) (lv' := [(1, .long (((((((1 * 37) * 37) * 37) * 37) * 37) * 37) * 37)), (3, .int (nI 5)), (0, .ref (a_64 0))]) rfl (Nat.le_of_ble_eq_true rfl) rfl dX12_init_566 ?_
  refine ng_iinc C (lv' := [(3, .int (nI 4)), (1, .long (((((((1 * 37) * 37) * 37) * 37) * 37) * 37) * 37)), (0, .ref (a_64 0))]) 1 rfl (by decide) (Nat.le_of_ble_eq_true rfl) rfl dX12_init_567 ?_
  refine ng_goto C 550 (by decide) dX12_init_570 ?_
  refine ng_iload_n C (i := 3) rfl 0 rfl dX12_init_550 ?_
  refine ng_if_ltN C (by omega) 573 (by decide) dX12_init_551 ?_
  refine ng_aload_n C (i := 0) rfl 2 rfl dX12_init_554 ?_
  refine ng_arr C 1 (by decide) (by decide) rfl mL_powers rfl dX12_init_555 ?_
  refine ng_iload_n C (i := 3) rfl 0 rfl dX12_init_558 ?_
  refine ng_lload_n C (i := 1) rfl 1 rfl dX12_init_559 ?_
  refine ng_lastore C (n := 12) 1 4 (by decide) (by decide) rfl rfl (by omega) (by decide) dX12_init_560 ?_
  refine ng_lload_n C (i := 1) rfl 1 rfl dX12_init_561 ?_
  refine ng_ldc2 C (x := 37) mK_37 dX12_init_562 ?_
  refine ng_lmul C dX12_init_565 ?_
  refine ng_lstore_n C (i := 1) (lv' := [(1, .long ((((((((1 * 37) * 37) * 37) * 37) * 37) * 37) * 37) * 37)), (3, .int (nI 4)), (0, .ref (a_64 0))]) rfl (Nat.le_of_ble_eq_true rfl) rfl dX12_init_566 ?_
  refine ng_iinc C (lv' := [(3, .int (nI 3)), (1, .long ((((((((1 * 37) * 37) * 37) * 37) * 37) * 37) * 37) * 37)), (0, .ref (a_64 0))]) 1 rfl (by decide) (Nat.le_of_ble_eq_true rfl) rfl dX12_init_567 ?_
  refine ng_goto C 550 (by decide) dX12_init_570 ?_
  refine ng_iload_n C (i := 3) rfl 0 rfl dX12_init_550 ?_
  refine ng_if_ltN C (by omega) 573 (by decide) dX12_init_551 ?_
  refine ng_aload_n C (i := 0) rfl 2 rfl dX12_init_554 ?_
  refine ng_arr C 1 (by decide) (by decide) rfl mL_powers rfl dX12_init_555 ?_
  refine ng_iload_n C (i := 3) rfl 0 rfl dX12_init_558 ?_
  refine ng_lload_n C (i := 1) rfl 1 rfl dX12_init_559 ?_
  refine ng_lastore C (n := 12) 1 3 (by decide) (by decide) rfl rfl (by omega) (by decide) dX12_init_560 ?_
  refine ng_lload_n C (i := 1) rfl 1 rfl dX12_init_561 ?_
  refine ng_ldc2 C (x := 37) mK_37 dX12_init_562 ?_
  refine ng_lmul C dX12_init_565 ?_
  refine ng_lstore_n C (i := 1) (lv' := [(1, .long (((((((((1 * 37) * 37) * 37) * 37) * 37) * 37) * 37) * 37) * 37)), (3, .int (nI 3)), (0, .ref (a_64 0))]) rfl (Nat.le_of_ble_eq_true rfl) rfl dX12_init_566 ?_
  refine ng_iinc C (lv' := [(3, .int (nI 2)), (1, .long (((((((((1 * 37) * 37) * 37) * 37) * 37) * 37) * 37) * 37) * 37)), (0, .ref (a_64 0))]) 1 rfl (by decide) (Nat.le_of_ble_eq_true rfl) rfl dX12_init_567 ?_
  refine ng_goto C 550 (by decide) dX12_init_570 ?_
  refine ng_iload_n C (i := 3) rfl 0 rfl dX12_init_550 ?_
  refine ng_if_ltN C (by omega) 573 (by decide) dX12_init_551 ?_
  refine ng_aload_n C (i := 0) rfl 2 rfl dX12_init_554 ?_
  refine ng_arr C 1 (by decide) (by decide) rfl mL_powers rfl dX12_init_555 ?_
  refine ng_iload_n C (i := 3) rfl 0 rfl dX12_init_558 ?_
  refine ng_lload_n C (i := 1) rfl 1 rfl dX12_init_559 ?_
  refine ng_lastore C (n := 12) 1 2 (by decide) (by decide) rfl rfl (by omega) (by decide) dX12_init_560 ?_
  refine ng_lload_n C (i := 1) rfl 1 rfl dX12_init_561 ?_
  refine ng_ldc2 C (x := 37) mK_37 dX12_init_562 ?_
  refine ng_lmul C dX12_init_565 ?_
  refine ng_lstore_n C (i := 1) (lv' := [(1, .long ((((((((((1 * 37) * 37) * 37) * 37) * 37) * 37) * 37) * 37) * 37) * 37)), (3, .int (nI 2)), (0, .ref (a_64 0))]) rfl (Nat.le_of_ble_eq_true rfl) rfl dX12_init_566 ?_
  refine ng_iinc C (lv' := [(3, .int (nI 1)), (1, .long ((((((((((1 * 37) * 37) * 37) * 37) * 37) * 37) * 37) * 37) * 37) * 37)), (0, .ref (a_64 0))]) 1 rfl (by decide) (Nat.le_of_ble_eq_true rfl) rfl dX12_init_567 ?_
  refine ng_goto C 550 (by decide) dX12_init_570 ?_
  refine ng_iload_n C (i := 3) rfl 0 rfl dX12_init_550 ?_
  refine ng_if_ltN C (by omega) 573 (by decide) dX12_init_551 ?_
  refine ng_aload_n C (i := 0) rfl 2 rfl dX12_init_554 ?_
  refine ng_arr C 1 (by decide) (by decide) rfl mL_powers rfl dX12_init_555 ?_
  refine ng_iload_n C (i := 3) rfl 0 rfl dX12_init_558 ?_
  refine ng_lload_n C (i := 1) rfl 1 rfl dX12_init_559 ?_
  refine ng_lastore C (n := 12) 1 1 (by decide) (by decide) rfl rfl (by omega) (by decide) dX12_init_560 ?_
  refine ng_lload_n C (i := 1) rfl 1 rfl dX12_init_561 ?_
  refine ng_ldc2 C (x := 37) mK_37 dX12_init_562 ?_
  refine ng_lmul C dX12_init_565 ?_
  refine ng_lstore_n C (i := 1) (lv' := [(1, .long (((((((((((1 * 37) * 37) * 37) * 37) * 37) * 37) * 37) * 37) * 37) * 37) * 37)), (3, .int (nI 1)), (0, .ref (a_64 0))]) rfl (Nat.le_of_ble_eq_true rfl) rfl dX12_init_566 ?_
  refine ng_iinc C (lv' := [(3, .int (nI 0)), (1, .long (((((((((((1 * 37) * 37) * 37) * 37) * 37) * 37) * 37) * 37) * 37) * 37) * 37)), (0, .ref (a_64 0))]) 1 rfl (by decide) (Nat.le_of_ble_eq_true rfl) rfl dX12_init_567 ?_
  refine ng_goto C 550 (by decide) dX12_init_570 ?_
  refine ng_iload_n C (i := 3) rfl 0 rfl dX12_init_550 ?_
  refine ng_if_ltN C (by omega) 573 (by decide) dX12_init_551 ?_
  refine ng_aload_n C (i := 0) rfl 2 rfl dX12_init_554 ?_
  refine ng_arr C 1 (by decide) (by decide) rfl mL_powers rfl dX12_init_555 ?_
  refine ng_iload_n C (i := 3) rfl 0 rfl dX12_init_558 ?_
  refine ng_lload_n C (i := 1) rfl 1 rfl dX12_init_559 ?_
  refine ng_lastore C (n := 12) 1 0 (by decide) (by decide) rfl rfl (by omega) (by decide) dX12_init_560 ?_
  refine ng_lload_n C (i := 1) rfl 1 rfl dX12_init_561 ?_
  refine ng_ldc2 C (x := 37) mK_37 dX12_init_562 ?_
  refine ng_lmul C dX12_init_565 ?_
  refine ng_lstore_n C (i := 1) (lv' := [(1, .long ((((((((((((1 * 37) * 37) * 37) * 37) * 37) * 37) * 37) * 37) * 37) * 37) * 37) * 37)), (3, .int (nI 0)), (0, .ref (a_64 0))]) rfl (Nat.le_of_ble_eq_true rfl) rfl dX12_init_566 ?_
  refine ng_iinc C (lv' := [(3, .int ((-1))), (1, .long ((((((((((((1 * 37) * 37) * 37) * 37) * 37) * 37) * 37) * 37) * 37) * 37) * 37) * 37)), (0, .ref (a_64 0))]) 1 rfl (by decide) (Nat.le_of_ble_eq_true rfl) rfl dX12_init_567 ?_
  refine ng_goto C 550 (by decide) dX12_init_570 ?_
  refine ng_iload_n C (i := 3) rfl 0 rfl dX12_init_550 ?_
  refine ng_if_lt C 573 (by decide) dX12_init_551 (fun c_551 => ?_) (fun c_ => absurd c_ (by decide))
  refine ng_iconst C (x := nI 0) rfl dX12_init_573 ?_
  refine ng_istore_n C (i := 3) (lv' := [(3, .int (nI 0)), (1, .long ((((((((((((1 * 37) * 37) * 37) * 37) * 37) * 37) * 37) * 37) * 37) * 37) * 37) * 37)), (0, .ref (a_64 0))]) rfl (Nat.le_of_ble_eq_true rfl) rfl dX12_init_574 ?_
  refine ng_iload_n C (i := 3) rfl 0 rfl dX12_init_575 ?_
  refine ng_iconst C (x := nI 5) rfl dX12_init_576 ?_
  refine ng_icmp_geN C (by omega) (by omega) 593 (by decide) dX12_init_577 (fun c_ => absurd c_ (by omega)) (fun c_577 => ?_)
  refine ng_aload_n C (i := 0) rfl 2 rfl dX12_init_580 ?_
  refine ng_arr C 29 (by decide) (by decide) rfl mL_lookNumbers rfl dX12_init_581 ?_
  refine ng_iload_n C (i := 3) rfl 0 rfl dX12_init_584 ?_
  refine ng_iconst C (x := (-1)) rfl dX12_init_585 ?_
  refine ng_iastore C (n := 5) 29 0 (by decide) (by decide) rfl rfl (by omega) (by decide) dX12_init_586 ?_
  refine ng_iincN C (lv' := [(3, .int (nI 1)), (1, .long ((((((((((((1 * 37) * 37) * 37) * 37) * 37) * 37) * 37) * 37) * 37) * 37) * 37) * 37)), (0, .ref (a_64 0))]) 1 0 rfl rfl (Nat.le_of_ble_eq_true rfl) rfl dX12_init_587 ?_
  refine ng_goto C 575 (by decide) dX12_init_590 ?_
  refine ng_iload_n C (i := 3) rfl 0 rfl dX12_init_575 ?_
  refine ng_iconst C (x := nI 5) rfl dX12_init_576 ?_
  refine ng_icmp_geN C (by omega) (by omega) 593 (by decide) dX12_init_577 (fun c_ => absurd c_ (by omega)) (fun c_577 => ?_)
  refine ng_aload_n C (i := 0) rfl 2 rfl dX12_init_580 ?_
  refine ng_arr C 29 (by decide) (by decide) rfl mL_lookNumbers rfl dX12_init_581 ?_
  refine ng_iload_n C (i := 3) rfl 0 rfl dX12_init_584 ?_
  refine ng_iconst C (x := (-1)) rfl dX12_init_585 ?_
  refine ng_iastore C (n := 5) 29 1 (by decide) (by decide) rfl rfl (by omega) (by decide) dX12_init_586 ?_
  refine ng_iincN C (lv' := [(3, .int (nI 2)), (1, .long ((((((((((((1 * 37) * 37) * 37) * 37) * 37) * 37) * 37) * 37) * 37) * 37) * 37) * 37)), (0, .ref (a_64 0))]) 1 0 rfl rfl (Nat.le_of_ble_eq_true rfl) rfl dX12_init_587 ?_
  refine ng_goto C 575 (by decide) dX12_init_590 ?_
  refine ng_iload_n C (i := 3) rfl 0 rfl dX12_init_575 ?_
  refine ng_iconst C (x := nI 5) rfl dX12_init_576 ?_
  refine ng_icmp_geN C (by omega) (by omega) 593 (by decide) dX12_init_577 (fun c_ => absurd c_ (by omega)) (fun c_577 => ?_)
  refine ng_aload_n C (i := 0) rfl 2 rfl dX12_init_580 ?_
  refine ng_arr C 29 (by decide) (by decide) rfl mL_lookNumbers rfl dX12_init_581 ?_
  refine ng_iload_n C (i := 3) rfl 0 rfl dX12_init_584 ?_
  refine ng_iconst C (x := (-1)) rfl dX12_init_585 ?_
  refine ng_iastore C (n := 5) 29 2 (by decide) (by decide) rfl rfl (by omega) (by decide) dX12_init_586 ?_
  refine ng_iincN C (lv' := [(3, .int (nI 3)), (1, .long ((((((((((((1 * 37) * 37) * 37) * 37) * 37) * 37) * 37) * 37) * 37) * 37) * 37) * 37)), (0, .ref (a_64 0))]) 1 0 rfl rfl (Nat.le_of_ble_eq_true rfl) rfl dX12_init_587 ?_
  refine ng_goto C 575 (by decide) dX12_init_590 ?_
  refine ng_iload_n C (i := 3) rfl 0 rfl dX12_init_575 ?_
  refine ng_iconst C (x := nI 5) rfl dX12_init_576 ?_
  refine ng_icmp_geN C (by omega) (by omega) 593 (by decide) dX12_init_577 (fun c_ => absurd c_ (by omega)) (fun c_577 => ?_)
  refine ng_aload_n C (i := 0) rfl 2 rfl dX12_init_580 ?_
  refine ng_arr C 29 (by decide) (by decide) rfl mL_lookNumbers rfl dX12_init_581 ?_
  refine ng_iload_n C (i := 3) rfl 0 rfl dX12_init_584 ?_
  refine ng_iconst C (x := (-1)) rfl dX12_init_585 ?_
  refine ng_iastore C (n := 5) 29 3 (by decide) (by decide) rfl rfl (by omega) (by decide) dX12_init_586 ?_
  refine ng_iincN C (lv' := [(3, .int (nI 4)), (1, .long ((((((((((((1 * 37) * 37) * 37) * 37) * 37) * 37) * 37) * 37) * 37) * 37) * 37) * 37)), (0, .ref (a_64 0))]) 1 0 rfl rfl (Nat.le_of_ble_eq_true rfl) rfl dX12_init_587 ?_
  refine ng_goto C 575 (by decide) dX12_init_590 ?_
  refine ng_iload_n C (i := 3) rfl 0 rfl dX12_init_575 ?_
  refine ng_iconst C (x := nI 5) rfl dX12_init_576 ?_
  refine ng_icmp_geN C (by omega) (by omega) 593 (by decide) dX12_init_577 (fun c_ => absurd c_ (by omega)) (fun c_577 => ?_)
  refine ng_aload_n C (i := 0) rfl 2 rfl dX12_init_580 ?_
  refine ng_arr C 29 (by decide) (by decide) rfl mL_lookNumbers rfl dX12_init_581 ?_
  refine ng_iload_n C (i := 3) rfl 0 rfl dX12_init_584 ?_
  refine ng_iconst C (x := (-1)) rfl dX12_init_585 ?_
  refine ng_iastore C (n := 5) 29 4 (by decide) (by decide) rfl rfl (by omega) (by decide) dX12_init_586 ?_
  refine ng_iincN C (lv' := [(3, .int (nI 5)), (1, .long ((((((((((((1 * 37) * 37) * 37) * 37) * 37) * 37) * 37) * 37) * 37) * 37) * 37) * 37)), (0, .ref (a_64 0))]) 1 0 rfl rfl (Nat.le_of_ble_eq_true rfl) rfl dX12_init_587 ?_
  refine ng_goto C 575 (by decide) dX12_init_590 ?_
  refine ng_iload_n C (i := 3) rfl 0 rfl dX12_init_575 ?_
  refine ng_iconst C (x := nI 5) rfl dX12_init_576 ?_
  refine ng_icmp_geN C (by omega) (by omega) 593 (by decide) dX12_init_577 (fun c_577 => ?_) (fun c_ => absurd c_ (by omega))
  refine ng_aload_n C (i := 0) rfl 2 rfl dX12_init_593 ?_
  refine ng_arr C 49 (by decide) (by decide) rfl mL_weights rfl dX12_init_594 ?_
  refine ng_iconst C (x := nI 0) rfl dX12_init_597 ?_
  refine ng_iconst C (x := nI 3) rfl dX12_init_598 ?_
  refine ng_iastore C (n := 2) 49 0 (by decide) (by decide) rfl rfl (by omega) (by decide) dX12_init_599 ?_
  refine ng_aload_n C (i := 0) rfl 2 rfl dX12_init_600 ?_
  refine ng_arr C 49 (by decide) (by decide) rfl mL_weights rfl dX12_init_601 ?_
  refine ng_iconst C (x := nI 1) rfl dX12_init_604 ?_
  refine ng_iconst C (x := nI 1) rfl dX12_init_605 ?_
  refine ng_iastore C (n := 2) 49 1 (by decide) (by decide) rfl rfl (by omega) (by decide) dX12_init_606 ?_
  exact ng_vret C ⟨ha_64, rfl, rfl, rfl, rfl, rfl, rfl, rfl, rfl, rfl, rfl, rfl, rfl, rfl, rfl, rfl, rfl, rfl, rfl, rfl, rfl, rfl, rfl, rfl, rfl, rfl, rfl, rfl, rfl, rfl, rfl, rfl, rfl, rfl, rfl, rfl, rfl, (fun _ => rfl), (fun _ => rfl), (fun _ => rfl), (fun _ => rfl), (fun _ => rfl), (fun _ => rfl), (fun _ => rfl), (fun _ => rfl), (fun _ => rfl), (fun _ => rfl), (fun _ => rfl), (fun _ => rfl), (fun _ => rfl), (fun _ => rfl), (fun _ => rfl), (fun _ => rfl), (fun _ => rfl), (fun _ => rfl), (fun _ => rfl), (fun _ => rfl), (fun _ => rfl), (fun _ => rfl), (fun _ => rfl), (fun _ => rfl), (fun _ => rfl), (fun _ => rfl), (fun _ => rfl), (fun _ => rfl), (fun _ => rfl), (fun _ => rfl), (fun _ => rfl), (fun _ => rfl), (fun _ => rfl), (fun _ => rfl), (fun _ => rfl), (fun _ => rfl), (fun _ => rfl), (fun _ => rfl), (fun _ => rfl), (fun _ => rfl), (fun _ => rfl), (fun _ => rfl), (fun _ => rfl), (fun _ => rfl), (fun _ => rfl), (fun _ => rfl), (fun _ => rfl), (fun _ => rfl), (fun _ => rfl), (fun _ => rfl), (fun _ => rfl), (fun _ => rfl), (fun _ => rfl), (fun _ => rfl), (fun _ => rfl), (fun _ => rfl), (fun _ => rfl), (fun _ => rfl), (fun _ => rfl), (fun _ => rfl), (fun _ => rfl), rfl, rfl, rfl, rfl, rfl, rfl, rfl, rfl, rfl, rfl, rfl, rfl, rfl, rfl, rfl, rfl, rfl, rfl, rfl⟩ dX12_init_607 (Nat.le_of_ble_eq_true rfl) (Nat.le_of_ble_eq_true rfl)
