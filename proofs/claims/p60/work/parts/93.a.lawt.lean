/-! the words of the class and of the reference stand among the tables: picked in one pass, by gaps; bytes compared one by one -/
def lEqB : List UInt8 → List UInt8 → Bool
  | [], [] => true
  | x :: xs, y :: ys => Nat.beq x.toNat y.toNat && lEqB xs ys
  | _, _ => false
theorem lEqB_eq : ∀ {a b : List UInt8}, lEqB a b = true → a = b
  | [], [], _ => rfl
  | [], _ :: _, h => by cases h
  | _ :: _, [], h => by cases h
  | x :: xs, y :: ys, h => by
    unfold lEqB at h
    rw [Bool.and_eq_true] at h
    rw [UInt8.toNat_inj.mp (Nat.eq_of_beq_eq_true h.1), lEqB_eq h.2]
def bEqB (a b : ByteArray) : Bool := lEqB a.data.toList b.data.toList
theorem bEqB_eq {a b : ByteArray} (h : bEqB a b = true) : a = b := by
  have h := lEqB_eq h
  cases a with | mk a => cases b with | mk b =>
  have h : a.toList = b.toList := h
  rw [Array.toList_inj.mp h]
def cEqW : Cond → Cond → Bool
  | .code n c l t, .code n' c' l' t' => bEqB c c' && (decide (n = n') && (decide (l = l') && decide (t = t')))
  | .codeWith n c l t x, .codeWith n' c' l' t' x' => bEqB c c' && (decide (n = n') && (decide (l = l') && (decide (t = t') && decide (x = x'))))
  | .code .., _ => false
  | .codeWith .., _ => false
  | a, b => decide (a = b)
theorem cEqW_eq {a b : Cond} (h : cEqW a b = true) : a = b := by
  unfold cEqW at h
  split at h
  · simp only [Bool.and_eq_true, decide_eq_true_eq] at h
    obtain ⟨h1, rfl, rfl, rfl⟩ := h
    rw [bEqB_eq h1]
  · simp only [Bool.and_eq_true, decide_eq_true_eq] at h
    obtain ⟨h1, rfl, rfl, rfl, rfl⟩ := h
    rw [bEqB_eq h1]
  · cases h
  · cases h
  · exact of_decide_eq_true h
def lsEqW : List Cond → List Cond → Bool
  | [], [] => true
  | x :: xs, y :: ys => cEqW x y && lsEqW xs ys
  | _, _ => false
theorem lsEqW_eq : ∀ {a b : List Cond}, lsEqW a b = true → a = b
  | [], [], _ => rfl
  | [], _ :: _, h => by cases h
  | _ :: _, [], h => by cases h
  | x :: xs, y :: ys, h => by
    unfold lsEqW at h
    rw [Bool.and_eq_true] at h
    rw [cEqW_eq h.1, lsEqW_eq h.2]
def pkW : List Cond → List Nat → List Cond
  | _, [] => []
  | l, g :: gs => match l.drop g with
    | [] => []
    | x :: r => x :: pkW r gs
theorem pkW_mem : ∀ {gs : List Nat} {l : List Cond} {w : Cond}, w ∈ pkW l gs → w ∈ l
  | [], _, _, h => by cases h
  | g :: gs, l, w, h => by
    unfold pkW at h
    split at h
    · cases h
    · rename_i x r e
      have e2 : ∀ z, z ∈ x :: r → z ∈ l := fun z hz => List.mem_of_mem_drop (e ▸ hz)
      rcases List.mem_cons.mp h with rfl | h
      · exact e2 _ (List.mem_cons.mpr (Or.inl rfl))
      · exact e2 _ (List.mem_cons.mpr (Or.inr (pkW_mem h)))
theorem goodIn_g {big : List Cond} (ws : List Cond) (ps gs : List Nat) (hp : lsEqW ws (ps.filterMap (fun i => (pkW big gs)[i]?)) = true) (h : ws.all goodWord = true) : GoodIn big ws := by
  intro w hw
  have h1 := List.all_eq_true.mp h w hw
  rw [lsEqW_eq hp] at hw
  obtain ⟨i, -, hi⟩ := List.mem_filterMap.mp hw
  exact ⟨pkW_mem (List.mem_of_getElem? hi), good_of_word h1⟩
set_option maxRecDepth 20000 in
theorem cWt0 : ∀ w ∈ cW0, w ∈ lw_tbl := fun w h => (goodIn_g cW0 [17, 18, 13, 14, 24, 19, 20, 25, 21, 22, 23, 26, 27, 29, 30, 31, 28, 15, 2, 32, 33, 16, 82, 77, 40, 41, 44, 45, 46, 47, 48, 49, 50, 51, 52, 53, 42, 54, 55, 56, 43, 83, 59, 35, 72, 69, 70, 71, 9, 76, 34, 66, 67, 68, 8, 73, 74, 75, 3, 112, 105, 36, 80, 78, 57, 58, 79, 64, 65, 109, 110, 111, 12, 108, 127, 61, 131, 103, 119, 89, 84, 85, 94, 95, 81, 90, 93, 86, 87, 88, 10, 91, 92, 140, 143, 153, 98, 96, 150, 99, 100, 151, 152, 1, 11, 147, 97, 148, 149, 0, 116, 157, 113, 114, 115, 104, 38, 135, 101, 102, 4, 136, 117, 118, 137, 138, 139, 141, 142, 5, 144, 145, 146, 154, 155, 156, 134, 158, 159, 62, 6, 63, 37, 39, 123, 60, 120, 106, 107, 121, 122, 124, 125, 126, 7, 128, 129, 130, 132, 133] [27, 0, 19, 3, 0, 9, 0, 1, 1, 0, 0, 0, 7, 15, 0, 7, 1, 0, 0, 0, 0, 3, 0, 0, 16, 0, 36, 0, 0, 1, 3, 1, 1, 0, 25, 0, 20, 15, 28, 1, 20, 0, 0, 0, 0, 1, 1, 1, 1, 1, 0, 0, 0, 0, 0, 0, 0, 320, 0, 0, 17, 11, 28, 0, 147, 0, 0, 0, 0, 0, 0, 0, 0, 0, 0, 0, 0, 19, 51, 0, 0, 12, 5, 51, 22, 0, 13, 0, 0, 0, 0, 13, 0, 0, 0, 6, 1, 1, 3, 0, 0, 290, 0, 0, 7, 3, 40, 0, 0, 0, 0, 0, 0, 21, 0, 0, 0, 22, 0, 0, 154, 0, 0, 0, 0, 0, 0, 0, 0, 0, 0, 0, 0, 1, 0, 0, 0, 0, 0, 0, 0, 0, 0, 0, 0, 0, 0, 0, 0, 1, 0, 0, 1, 0, 0, 0, 0, 0, 2, 0] (by decide +kernel) (by decide +kernel) w h).1
set_option maxRecDepth 20000 in
theorem cWt1 : ∀ w ∈ cW1, w ∈ lw_tbl := fun w h => (goodIn_g cW1 [0, 12, 71, 72, 70, 80, 35, 56, 58, 94, 37, 39, 97, 46, 91, 42, 92, 93, 3, 95, 96, 88, 89, 90, 2, 22, 84, 54, 55, 85, 86, 87, 83, 29, 24, 30, 26, 27, 28, 109, 45, 110, 111, 112, 44, 47, 31, 32, 50, 118, 43, 115, 116, 117, 6, 49, 25, 107, 108, 4, 113, 114, 5, 106, 102, 60, 101, 103, 104, 105, 100, 20, 21, 119, 34, 33, 14, 77, 78, 79, 81, 82, 1, 98, 99, 76, 123, 132, 62, 63, 64, 65, 136, 19, 144, 147, 40, 18, 36, 38, 17, 53, 51, 48, 52, 141, 142, 143, 145, 146, 9, 11, 140, 23, 129, 130, 131, 133, 61, 15, 134, 135, 8, 137, 138, 139, 128, 57, 121, 122, 7, 13, 124, 125, 126, 127, 120, 41, 153, 159, 66, 149, 59, 156, 16, 150, 151, 152, 154, 155, 157, 158, 10, 148, 67, 68, 69, 73, 74, 75] [26, 2, 0, 0, 0, 0, 0, 1, 0, 0, 1, 13, 0, 0, 8, 12, 97, 69, 7, 19, 0, 0, 1, 1, 248, 14, 0, 0, 0, 0, 0, 66, 0, 1, 0, 38, 0, 3, 0, 0, 2, 3, 1, 0, 0, 0, 23, 2, 12, 81, 0, 48, 0, 13, 82, 0, 0, 72, 2, 0, 48, 292, 0, 0, 0, 0, 13, 250, 0, 0, 0, 41, 0, 2, 0, 0, 2, 0, 0, 0, 0, 0, 1, 0, 0, 0, 0, 0, 0, 0, 1, 0, 0, 1, 0, 0, 0, 0, 0, 0, 0, 0, 0, 0, 0, 0, 0, 0, 1, 0, 0, 0, 0, 0, 1, 0, 0, 1, 0, 0, 3, 0, 1, 0, 0, 0, 0, 0, 0, 0, 0, 0, 0, 0, 0, 1, 0, 0, 0, 0, 0, 0, 0, 0, 0, 0, 1, 0, 3, 0, 0, 0, 0, 0, 0, 0, 0, 0, 1, 0] (by decide +kernel) (by decide +kernel) w h).1
set_option maxRecDepth 20000 in
theorem cWt2 : ∀ w ∈ cW2, w ∈ lw_tbl := fun w h => (goodIn_g cW2 [125, 126, 127, 128, 4, 129, 130, 5, 124, 56, 138, 54, 55, 137, 62, 65, 15, 142, 60, 61, 143, 63, 64, 141, 134, 107, 108, 9, 135, 136, 6, 139, 140, 133, 29, 151, 59, 58, 149, 150, 152, 148, 158, 155, 156, 157, 153, 154, 145, 131, 132, 146, 147, 7, 144, 112, 113, 114, 115, 104, 116, 117, 110, 118, 111, 121, 122, 123, 109, 106, 25, 105, 103, 100, 101, 102, 99, 85, 82, 80, 81, 83, 84, 10, 94, 95, 96, 52, 53, 88, 89, 159, 90, 91, 92, 93, 26, 97, 98, 78, 79, 86, 87, 77, 75, 76, 3, 74, 72, 73, 2, 71, 27, 28, 69, 70, 1, 68, 120, 66, 67, 119, 12, 13, 16, 17, 18, 19, 20, 21, 22, 23, 24, 11, 57, 37, 40, 43, 33, 14, 34, 35, 36, 38, 39, 41, 42, 30, 31, 32, 0, 8, 44, 49, 50, 51, 45, 46, 47, 48] [1, 3, 0, 0, 27, 3, 2, 0, 3, 1, 17, 33, 0, 0, 9, 7, 13, 1, 0, 0, 0, 1, 0, 0, 1, 30, 30, 4, 0, 34, 264, 0, 1, 0, 0, 0, 0, 0, 0, 0, 0, 0, 0, 0, 10, 2, 0, 6, 0, 0, 0, 2, 58, 2, 15, 0, 0, 12, 13, 8, 34, 0, 0, 1, 0, 0, 6, 0, 0, 0, 1, 0, 0, 1, 0, 0, 1, 0, 0, 0, 0, 0, 0, 0, 0, 0, 0, 0, 0, 0, 0, 19, 0, 0, 0, 0, 1, 0, 0, 166, 0, 0, 0, 0, 0, 4, 0, 1, 0, 72, 350, 1, 0, 0, 0, 10, 29, 0, 0, 29, 4, 27, 0, 3, 140, 52, 0, 50, 1, 31, 1, 65, 0, 0, 0, 0, 1, 0, 0, 0, 0, 0, 0, 0, 39, 0, 0, 1, 0, 0, 0, 0, 0, 0, 0, 0, 0, 0, 0, 64] (by decide +kernel) (by decide +kernel) w h).1
set_option maxRecDepth 20000 in
theorem cWt3 : ∀ w ∈ cW3, w ∈ lw_tbl := fun w h => (goodIn_g cW3 [38, 39, 42, 55, 56, 57, 58, 59, 60, 61, 64, 65, 66, 67, 68, 53, 54, 62, 63, 52, 72, 49, 50, 51, 71, 9, 33, 34, 35, 36, 37, 40, 41, 0, 69, 70, 1, 48, 45, 46, 47, 44, 32, 43, 78, 79, 81, 82, 80, 74, 75, 8, 76, 77, 84, 85, 73, 88, 93, 94, 7, 90, 91, 92, 95, 96, 97, 89, 114, 115, 31, 117, 118, 119, 120, 116, 126, 127, 128, 129, 130, 141, 142, 125, 139, 140, 4, 138, 135, 136, 137, 134, 132, 133, 3, 143, 131, 18, 19, 15, 20, 16, 17, 5, 12, 13, 14, 6, 22, 23, 10, 25, 26, 27, 24, 11, 21, 87, 86, 98, 83, 99, 28, 29, 30, 147, 106, 152, 148, 149, 150, 151, 153, 146, 159, 157, 158, 156, 155, 154, 102, 103, 105, 104, 101, 144, 145, 107, 108, 109, 110, 124, 100, 122, 123, 2, 121, 111, 112, 113] [2, 0, 13, 1, 0, 29, 0, 60, 4, 0, 78, 1, 0, 0, 0, 0, 0, 0, 0, 0, 4, 29, 0, 0, 0, 1, 3, 0, 17, 0, 0, 213, 48, 0, 0, 0, 1, 0, 12, 0, 1, 1, 0, 8, 26, 0, 0, 0, 0, 0, 0, 0, 0, 0, 0, 0, 0, 0, 0, 0, 0, 1, 6, 0, 0, 0, 0, 0, 1, 0, 1, 0, 0, 18, 0, 0, 0, 0, 0, 0, 2, 6, 1, 0, 34, 3, 6, 1, 79, 8, 0, 0, 0, 0, 0, 2, 7, 12, 3, 7, 81, 86, 0, 0, 0, 0, 5, 28, 0, 0, 0, 7, 0, 0, 1, 0, 0, 3, 1, 0, 0, 27, 0, 1, 0, 59, 0, 0, 0, 0, 1, 173, 0, 1, 0, 0, 0, 0, 0, 0, 1, 0, 0, 0, 44, 0, 412, 0, 0, 0, 0, 0, 0, 0, 7, 0, 32, 0, 0, 0] (by decide +kernel) (by decide +kernel) w h).1
set_option maxRecDepth 20000 in
theorem cWt4 : ∀ w ∈ cW4, w ∈ lw_tbl := fun w h => (goodIn_g cW4 [109, 110, 111, 112, 108, 100, 11, 101, 102, 103, 104, 105, 106, 107, 113, 114, 115, 116, 117, 99, 66, 26, 27, 28, 30, 29, 120, 119, 118, 137, 92, 89, 90, 91, 0, 142, 134, 135, 136, 138, 139, 140, 141, 87, 88, 133, 126, 23, 128, 127, 25, 129, 130, 131, 132, 125, 148, 147, 98, 159, 158, 157, 94, 95, 96, 93, 122, 123, 124, 121, 144, 145, 146, 149, 150, 151, 152, 153, 154, 143, 97, 155, 156, 6, 7, 8, 41, 17, 18, 42, 20, 43, 22, 44, 45, 46, 47, 48, 49, 50, 31, 32, 51, 52, 34, 35, 53, 37, 38, 54, 55, 56, 57, 58, 59, 9, 19, 21, 24, 33, 36, 39, 40, 5, 60, 61, 2, 62, 3, 13, 10, 63, 64, 65, 14, 16, 68, 69, 70, 71, 72, 73, 67, 15, 75, 76, 77, 74, 80, 81, 4, 12, 78, 79, 1, 82, 83, 84, 85, 86] [12, 33, 13, 0, 0, 30, 0, 2, 0, 1, 10, 7, 0, 15, 4, 3, 1, 19, 0, 1, 25, 1, 23, 0, 0, 0, 0, 0, 0, 0, 0, 7, 0, 1, 24, 0, 1, 26, 0, 0, 0, 51, 0, 0, 0, 0, 0, 0, 0, 0, 0, 0, 0, 0, 0, 0, 0, 0, 0, 0, 48, 0, 67, 15, 0, 0, 0, 3, 0, 0, 0, 18, 0, 0, 29, 1, 0, 0, 5, 0, 0, 0, 68, 0, 0, 231, 0, 42, 0, 0, 0, 1, 0, 4, 3, 0, 0, 82, 5, 15, 5, 0, 0, 0, 0, 4, 0, 0, 0, 6, 35, 0, 0, 240, 0, 0, 0, 20, 13, 11, 0, 7, 0, 0, 0, 6, 0, 0, 0, 0, 0, 0, 3, 20, 0, 0, 0, 0, 0, 0, 0, 6, 0, 13, 0, 0, 0, 0, 0, 3, 0, 0, 2, 0, 0, 26, 3, 343, 0, 0] (by decide +kernel) (by decide +kernel) w h).1
set_option maxRecDepth 20000 in
theorem cWt5 : ∀ w ∈ cW5, w ∈ lw_tbl := fun w h => (goodIn_g cW5 [40, 41, 39, 42, 15, 16, 46, 49, 13, 14, 28, 53, 52, 50, 51, 2, 57, 58, 59, 60, 56, 44, 45, 47, 48, 1, 54, 55, 3, 61, 35, 43, 62, 67, 80, 77, 78, 79, 81, 82, 83, 76, 74, 75, 6, 73, 87, 88, 92, 89, 90, 86, 97, 91, 71, 72, 5, 84, 85, 7, 93, 94, 95, 96, 98, 100, 101, 102, 70, 64, 65, 66, 68, 69, 4, 63, 104, 105, 106, 139, 107, 108, 109, 110, 103, 115, 116, 117, 118, 114, 112, 113, 8, 111, 119, 121, 122, 123, 120, 124, 141, 142, 128, 126, 127, 9, 125, 149, 17, 133, 134, 135, 136, 137, 138, 132, 130, 131, 10, 129, 150, 140, 155, 154, 99, 152, 153, 12, 151, 157, 156, 159, 158, 18, 143, 147, 145, 146, 11, 144, 148, 27, 20, 19, 22, 23, 24, 25, 26, 0, 29, 30, 32, 33, 34, 21, 36, 31, 37, 38] [4, 4, 0, 0, 1, 0, 0, 0, 4, 0, 0, 0, 19, 122, 10, 1, 1, 39, 8, 18, 2, 319, 19, 0, 0, 41, 1, 0, 0, 8, 0, 15, 46, 0, 0, 64, 3, 4, 5, 82, 2, 0, 11, 7, 0, 0, 0, 1, 1, 0, 1, 1, 0, 0, 1, 1, 0, 0, 8, 0, 0, 19, 16, 12, 1, 0, 0, 0, 0, 1, 0, 0, 1, 0, 0, 1, 0, 0, 0, 0, 0, 0, 0, 0, 1, 1, 0, 0, 0, 0, 0, 7, 5, 11, 0, 0, 329, 3, 1, 7, 7, 0, 0, 5, 0, 0, 0, 7, 0, 0, 11, 10, 1, 1, 0, 0, 0, 0, 16, 3, 3, 1, 0, 0, 21, 4, 1, 1, 0, 3, 0, 1, 0, 0, 0, 0, 1, 0, 0, 4, 3, 18, 6, 13, 4, 0, 1, 0, 235, 99, 3, 3, 0, 1, 0, 0, 4, 0, 6, 0] (by decide +kernel) (by decide +kernel) w h).1
set_option maxRecDepth 20000 in
theorem cWt6 : ∀ w ∈ cW6, w ∈ lw_tbl := fun w h => (goodIn_g cW6 [13, 14, 12, 16, 17, 18, 19, 15, 21, 22, 20, 26, 24, 25, 0, 27, 28, 29, 30, 31, 23, 33, 34, 35, 32, 11, 5, 122, 120, 121, 1, 123, 124, 125, 119, 131, 6, 128, 7, 129, 130, 2, 132, 8, 126, 9, 127, 10, 143, 144, 145, 146, 147, 148, 149, 150, 142, 134, 135, 136, 133, 138, 139, 140, 137, 141, 154, 152, 153, 151, 156, 157, 158, 155, 36, 37, 38, 41, 42, 103, 39, 40, 3, 100, 101, 102, 49, 50, 109, 98, 99, 112, 97, 47, 48, 94, 95, 96, 118, 107, 108, 110, 111, 115, 116, 117, 106, 92, 93, 104, 105, 113, 114, 91, 58, 55, 56, 57, 85, 82, 83, 84, 86, 90, 87, 88, 89, 159, 4, 44, 45, 46, 43, 52, 53, 54, 51, 59, 60, 61, 62, 63, 64, 65, 66, 67, 68, 69, 70, 71, 72, 73, 74, 75, 76, 77, 78, 79, 80, 81] [8, 16, 15, 3, 39, 152, 66, 1, 1, 1, 1, 465, 15, 1, 0, 6, 0, 0, 6, 0, 4, 1, 0, 4, 1, 1, 0, 1, 0, 1, 0, 0, 4, 0, 0, 0, 20, 0, 0, 16, 0, 0, 0, 7, 0, 0, 0, 58, 0, 0, 0, 2, 0, 0, 0, 3, 0, 0, 0, 3, 0, 0, 418, 0, 0, 33, 0, 0, 26, 0, 0, 1, 0, 0, 23, 0, 0, 2, 0, 0, 6, 0, 27, 0, 0, 0, 5, 37, 0, 0, 0, 5, 0, 0, 0, 0, 0, 0, 0, 0, 0, 0, 0, 0, 0, 0, 0, 0, 0, 0, 0, 0, 0, 0, 0, 0, 0, 0, 0, 3, 0, 1, 0, 2, 0, 0, 158, 3, 3, 0, 1, 0, 4, 10, 0, 0, 0, 11, 0, 0, 0, 19, 4, 0, 0, 0, 3, 0, 0, 4, 0, 3, 0, 0, 0, 4, 0, 0, 0, 44] (by decide +kernel) (by decide +kernel) w h).1
set_option maxRecDepth 20000 in
theorem cWt7 : ∀ w ∈ cW7, w ∈ lw_tbl := fun w h => (goodIn_g cW7 [73, 74, 75, 76, 77, 78, 79, 72, 97, 98, 99, 96, 9, 10, 11, 12, 7, 8, 13, 14, 15, 16, 17, 18, 19, 20, 21, 22, 23, 24, 25, 26, 27, 28, 29, 30, 31, 32, 33, 34, 35, 36, 37, 38, 39, 40, 41, 42, 43, 44, 45, 6, 58, 103, 104, 105, 106, 107, 108, 109, 110, 111, 112, 113, 114, 115, 116, 117, 118, 119, 102, 121, 122, 123, 124, 125, 126, 127, 128, 129, 130, 131, 132, 133, 134, 135, 136, 137, 138, 139, 140, 141, 120, 143, 144, 145, 146, 147, 148, 70, 71, 81, 82, 100, 101, 149, 150, 151, 152, 153, 154, 155, 156, 157, 158, 159, 142, 66, 52, 53, 54, 55, 56, 57, 59, 60, 61, 62, 63, 64, 65, 51, 80, 91, 68, 69, 84, 85, 86, 87, 88, 89, 90, 83, 92, 94, 95, 93, 0, 1, 46, 2, 3, 4, 5, 47, 48, 49, 50, 67] [89, 0, 0, 0, 316, 0, 0, 0, 0, 0, 0, 0, 0, 89, 0, 0, 51, 0, 0, 6, 0, 0, 203, 0, 0, 3, 0, 0, 2, 0, 0, 2, 0, 0, 7, 0, 0, 12, 0, 0, 5, 0, 0, 14, 0, 0, 21, 0, 0, 3, 0, 0, 0, 0, 0, 0, 6, 0, 0, 4, 0, 0, 2, 0, 59, 0, 0, 4, 6, 0, 4, 0, 0, 532, 13, 0, 0, 1, 0, 0, 3, 0, 0, 6, 0, 0, 1, 0, 0, 1, 0, 0, 7, 2, 0, 0, 0, 0, 0, 0, 11, 0, 6, 0, 0, 28, 0, 0, 165, 0, 0, 1, 0, 0, 1, 0, 0, 6, 0, 0, 3, 0, 0, 0, 1, 0, 0, 12, 0, 0, 20, 0, 0, 2, 0, 0, 16, 0, 0, 5, 0, 0, 22, 0, 0, 0, 1, 0, 0, 1, 0, 0, 7, 0, 0, 2, 0, 1, 0, 0] (by decide +kernel) (by decide +kernel) w h).1
set_option maxRecDepth 20000 in
theorem cWt8 : ∀ w ∈ cW8, w ∈ lw_tbl := fun w h => (goodIn_g cW8 [7, 8, 9, 10, 11, 12, 13, 14, 15, 16, 17, 18, 19, 20, 21, 22, 23, 24, 25, 26, 27, 6, 3, 4, 5, 2, 0, 1] [80, 0, 0, 0, 2, 0, 0, 877, 568, 0, 7, 0, 11, 0, 0, 2, 0, 1, 0, 9, 0, 0, 12, 0, 220, 0, 98, 0] (by decide +kernel) (by decide +kernel) w h).1
set_option maxRecDepth 20000 in
theorem cWt_wsX00 : ∀ w ∈ wsX00, w ∈ lw_tbl := fun w h => (goodIn_g wsX00 [0, 1, 2, 3, 4] [185, 1, 1, 1, 1] (by decide +kernel) (by decide +kernel) w h).1
set_option maxRecDepth 20000 in
theorem cWt_wsX10 : ∀ w ∈ wsX10, w ∈ lw_tbl := fun w h => (goodIn_g wsX10 [0, 1, 2, 3, 4, 5, 6, 7, 8, 9, 10, 11, 12, 13] [322, 1, 1, 1, 1, 1, 1, 1, 1, 1, 1, 1, 1, 1] (by decide +kernel) (by decide +kernel) w h).1
set_option maxRecDepth 20000 in
theorem cWt_wsX20 : ∀ w ∈ wsX20, w ∈ lw_tbl := fun w h => (goodIn_g wsX20 [0, 1] [1391, 1] (by decide +kernel) (by decide +kernel) w h).1
set_option maxRecDepth 20000 in
theorem cWt_wsX30 : ∀ w ∈ wsX30, w ∈ lw_tbl := fun w h => (goodIn_g wsX30 [0, 1, 2, 3, 4, 5, 6, 7, 8] [148, 1, 1, 1, 1, 1, 1, 1, 1] (by decide +kernel) (by decide +kernel) w h).1
set_option maxRecDepth 20000 in
theorem cWt_wsX40 : ∀ w ∈ wsX40, w ∈ lw_tbl := fun w h => (goodIn_g wsX40 [0, 1, 2, 3, 4, 5, 6, 7, 8, 9, 10] [679, 1, 1, 1, 1, 1, 1, 1, 1, 1, 1] (by decide +kernel) (by decide +kernel) w h).1
set_option maxRecDepth 20000 in
theorem cWt_wsX50 : ∀ w ∈ wsX50, w ∈ lw_tbl := fun w h => (goodIn_g wsX50 [0, 1, 2, 3, 4, 5, 6, 7, 8, 9] [1086, 1, 1, 1, 1, 1, 1, 1, 1, 1] (by decide +kernel) (by decide +kernel) w h).1
set_option maxRecDepth 20000 in
theorem cWt_wsX60 : ∀ w ∈ wsX60, w ∈ lw_tbl := fun w h => (goodIn_g wsX60 [0, 1, 2, 3, 4] [255, 1, 1, 1, 1] (by decide +kernel) (by decide +kernel) w h).1
set_option maxRecDepth 20000 in
theorem cWt_wsX70 : ∀ w ∈ wsX70, w ∈ lw_tbl := fun w h => (goodIn_g wsX70 [0, 1, 2, 3, 4, 5, 6] [281, 1, 1, 1, 1, 1, 1] (by decide +kernel) (by decide +kernel) w h).1
set_option maxRecDepth 20000 in
theorem cWt_wsX80 : ∀ w ∈ wsX80, w ∈ lw_tbl := fun w h => (goodIn_g wsX80 [0, 1, 2, 3] [1034, 1, 1, 1] (by decide +kernel) (by decide +kernel) w h).1
set_option maxRecDepth 20000 in
theorem cWt_wsX90 : ∀ w ∈ wsX90, w ∈ lw_tbl := fun w h => (goodIn_g wsX90 [0, 1, 2, 3, 4] [122, 1, 1, 1, 1] (by decide +kernel) (by decide +kernel) w h).1
set_option maxRecDepth 20000 in
theorem cWt_wsX100 : ∀ w ∈ wsX100, w ∈ lw_tbl := fun w h => (goodIn_g wsX100 [0, 1] [233, 1] (by decide +kernel) (by decide +kernel) w h).1
set_option maxRecDepth 20000 in
theorem cWt_wsX110 : ∀ w ∈ wsX110, w ∈ lw_tbl := fun w h => (goodIn_g wsX110 [0, 1, 2, 3, 4, 5, 6, 7, 8, 9, 10, 11, 12, 13, 14, 15, 16, 17, 18] [370, 1, 1, 1, 1, 1, 1, 1, 1, 1, 1, 1, 1, 1, 1, 1, 1, 1, 1] (by decide +kernel) (by decide +kernel) w h).1
set_option maxRecDepth 20000 in
theorem cWt_wsJx4a65c0 : ∀ w ∈ wsJx4a65c0, w ∈ lw_tbl := fun w h => (goodIn_g wsJx4a65c0 [2, 0, 1] [215, 1, 1] (by decide +kernel) (by decide +kernel) w h).1
set_option maxRecDepth 100000 in
theorem cWt_x0 : ∀ w ∈ (vx_atS RX11 104 "java/lang/IllegalArgumentException" ["java/lang/RuntimeException", "java/lang/Exception"]).filter goodWord, w ∈ lw_tbl := by decide +kernel
set_option maxRecDepth 100000 in
theorem cWt_x1 : ∀ w ∈ (vx_atS RX11 120 "java/lang/IllegalStateException" ["java/lang/RuntimeException", "java/lang/Exception"]).filter goodWord, w ∈ lw_tbl := by decide +kernel
set_option maxRecDepth 100000 in
theorem cWt_x2 : ∀ w ∈ (vx_atS RX11 273 "java/lang/IndexOutOfBoundsException" ["java/lang/RuntimeException", "java/lang/Exception"]).filter goodWord, w ∈ lw_tbl := by decide +kernel
theorem cWt_l : ∀ w ∈ cWl, w ∈ lw_tbl := by
  unfold cWl
  repeat' refine List.forall_mem_append.mpr ⟨?_, ?_⟩
  · exact cWt_wsX00
  · exact cWt_wsX10
  · exact cWt_wsX20
  · exact cWt_wsX30
  · exact cWt_wsX40
  · exact cWt_wsX50
  · exact cWt_wsX60
  · exact cWt_wsX70
  · exact cWt_wsX80
  · exact cWt_wsX90
  · exact cWt_wsX100
  · exact cWt_wsX110
  · exact cWt_wsJx4a65c0
theorem cWt_x : ∀ w ∈ cWx, w ∈ lw_tbl := by
  unfold cWx
  repeat' refine List.forall_mem_append.mpr ⟨?_, ?_⟩
  · exact cWt_x0
  · exact cWt_x1
  · exact cWt_x2
theorem cWs_tbl : ∀ w ∈ cWs, w ∈ lw_tbl := List.forall_mem_append.mpr ⟨cWt0, List.forall_mem_append.mpr ⟨cWt1, List.forall_mem_append.mpr ⟨cWt2, List.forall_mem_append.mpr ⟨cWt3, List.forall_mem_append.mpr ⟨cWt4, List.forall_mem_append.mpr ⟨cWt5, List.forall_mem_append.mpr ⟨cWt6, List.forall_mem_append.mpr ⟨cWt7, List.forall_mem_append.mpr ⟨cWt8, List.forall_mem_append.mpr ⟨cWt_l, cWt_x⟩⟩⟩⟩⟩⟩⟩⟩⟩⟩
