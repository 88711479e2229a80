/-! the law of p60: its methods as predicates -/
def jSl (x : Int64) (y : Int32) : Int64 := x <<< (y.toInt64 &&& 63)
def jUs (x : Int64) (y : Int32) : Int64 := (x.toUInt64 >>> (y.toInt64.toUInt64 &&& Int64.toUInt64 63)).toInt64
def ks_L_from_28 (Q : Int32 → cS → Prop) (dp : Nat) (mc ms : Nat) (L : Nat)  (x2 : Int32) (t0 : Int32) (cd dd : Nat) (S : cS) : Prop :=
¬ x2 = 0 ∧ ((cd ≤ mc ∧ dd ≤ ms) ∧ (Q ((((t0 &&& (((2147483647))))) - ((t0 &&& (((2147483647))))) / x2 * x2)) S))
def ks_L_from (Q : Int32 → cS → Prop) (dp : Nat) (mc ms : Nat) (L : Nat) (x1 : Int32) (x2 : Int32) (S : cS) : Prop :=
((¬ ((nI L)) = 0 →
  ¬ ((nI L)) = 0 ∧ (vp_in ((x1 - x1 / ((nI L)) * ((nI L)))) L ∧ (∀ z1 : Int32, ks_L_from_28 Q dp mc ms L  x2 ((z1 ^^^ (((((231547))) * x1)))) 0 0 S))) ∧
 (((nI L)) = 0 →
  ks_L_from_28 Q dp mc ms L  x2 ((((((nI 311)) * x1)) + ((nI 277)))) 0 0 S))
def k_L_word (Q : Int32 → cS → Prop) (dp : Nat) (x0 : Int64) (x2 : Int32) (x3 : Int32) (S : cS) : Prop :=
((x3 < 0 →
  Q ((nI 0)) S) ∧
 (¬ x3 < 0 →
  ((x3 ≤ ((nI 4)) →
    Q ((((jUs x0 ((((((nI 4)) + ((((nI 20)) * x2)))) + ((((nI 4)) * x3))))) &&& 15).toInt32)) S) ∧
   (¬ x3 ≤ ((nI 4)) →
    Q ((nI 0)) S))))
def k_L_has_45 (Q : Int32 → cS → Prop) (dp : Nat)  (x4 : Int32) (t0 : Int32) (S : cS) : Prop :=
((t0 < 0 →
  Q ((bI false)) S) ∧
 (¬ t0 < 0 →
  ((t0 = x4 →
    Q ((bI true)) S) ∧
   (¬ t0 = x4 →
    ((¬ t0 = 0 →
      Q ((bI false)) S) ∧
     (t0 = 0 →
      ((¬ x4 = ((nI 2)) →
        Q ((bI false)) S) ∧
       (x4 = ((nI 2)) →
        Q ((bI true)) S))))))))
def k_L_has_44 (Q : Int32 → cS → Prop) (dp : Nat)  (x4 : Int32) (S : cS) : Prop :=
k_L_has_45 Q dp  x4 (((-1))) S
def k_L_has (Q : Int32 → cS → Prop) (dp : Nat) (x0 : Int64) (x2 : Int32) (x3 : Int32) (x4 : Int32) (S : cS) : Prop :=
k_L_word (fun r_1 S_1 => 
((r_1 = ((nI 1)) →
  k_L_has_45 Q dp  x4 ((nI 0)) S_1) ∧
 (¬ r_1 = ((nI 1)) →
  ((¬ r_1 = ((nI 2)) →
    ((r_1 ≤ ((nI 2)) →
      k_L_has_44 Q dp  x4 S_1) ∧
     (¬ r_1 ≤ ((nI 2)) →
      ((((nI 7)) ≤ r_1 →
        k_L_has_44 Q dp  x4 S_1) ∧
       (¬ ((nI 7)) ≤ r_1 →
        k_L_has_45 Q dp  x4 ((r_1 - ((nI 2)))) S_1))))) ∧
   (r_1 = ((nI 2)) →
    k_L_has_45 Q dp  x4 ((nI 0)) S_1))))) dp x0 x2 x3 S
def k_L_count_30 (Q : Int32 → cS → Prop) (dp : Nat) (R6 : Int64 → Int32 → Int32 → Int32 → Int32 → cS → Prop) (x0 : Int64) (x2 : Int32) (x3 : Int32) (x5 : Int32) (t0 : Int32) (t1 : Int32) (S : cS) : Prop :=
∀ x4_2 : Int32, x4_2 = (t1 + t0) → ∀ x5_3 : Int32, x5_3 = x5 + nI 1 → R6 x0 x2 x3 x4_2 x5_3 S
def k_L_count_6 (Q : Int32 → cS → Prop) (dp : Nat) (R6 : Int64 → Int32 → Int32 → Int32 → Int32 → cS → Prop) (x0 : Int64) (x2 : Int32) (x3 : Int32) (x4 : Int32) (x5 : Int32) (S : cS) : Prop :=
((((nI 5)) ≤ x5 →
  Q x4 S) ∧
 (¬ ((nI 5)) ≤ x5 →
  k_L_has (fun r_1 S_1 => 
  ((r_1 = 0 →
    k_L_count_30 Q dp R6 x0 x2 x3 x5 ((nI 0)) x4 S_1) ∧
   (¬ r_1 = 0 →
    k_L_count_30 Q dp R6 x0 x2 x3 x5 ((nI 1)) x4 S_1))) dp x0 x2 x5 x3 S))
def k_L_count_6L (Q : Int32 → cS → Prop) (dp : Nat)  (x0 : Int64) (x2 : Int32) (x3 : Int32) (x4 : Int32) (x5 : Int32) (S : cS) : Prop :=
  lfp (X := Int64 × Int32 × Int32 × Int32 × Int32 × cS) (fun P y => k_L_count_6 Q dp  (fun b0 b1 b2 b3 b4 S => P (b0, b1, b2, b3, b4, S)) y.1 y.2.1 y.2.2.1 y.2.2.2.1 y.2.2.2.2.1 y.2.2.2.2.2) (x0, x2, x3, x4, x5, S)
def k_L_count (Q : Int32 → cS → Prop) (dp : Nat) (x0 : Int64) (x2 : Int32) (x3 : Int32) (S : cS) : Prop :=
k_L_count_6L Q dp  x0 x2 x3 (((nI 0))) (((nI 0))) S
def k_L_record (Q : Int32 → cS → Prop) (dp : Nat) (x0 : Nat) (x1 : Int32) (x2 : Int32) (S : cS) : Prop :=
cX S x0 15 x1 ∧ (Q ((((jUs (cJ S x0 (x1).toNatClampNeg) ((((nI 6)) * x2))) &&& 63).toInt32)) S)
def k_L_leafCount_196 (Q : Int32 → cS → Prop) (dp : Nat)  (x0 : Int64) (S : cS) : Prop :=
k_L_count (fun r_1 S_1 => 
Q r_1 S_1) dp x0 ((nI 0)) ((nI 0)) S
def k_L_leafCount_260 (Q : Int32 → cS → Prop) (dp : Nat)  (t0 : Int32) (t1 : Int32) (t2 : Int64) (S : cS) : Prop :=
k_L_count (fun r_2 S_2 => 
Q r_2 S_2) dp t2 t1 t0 S
def k_L_leafCount_176 (Q : Int32 → cS → Prop) (dp : Nat) (R89 : Int64 → Int32 → Int32 → cS → Prop) (x0 : Int64) (x4 : Int32) (t0 : Int32) (t1 : Int32) (S : cS) : Prop :=
∀ x3_8 : Int32, x3_8 = (t1 + t0) → ∀ x4_9 : Int32, x4_9 = x4 + nI 1 → R89 x0 x3_8 x4_9 S
def k_L_leafCount_175 (Q : Int32 → cS → Prop) (dp : Nat) (R89 : Int64 → Int32 → Int32 → cS → Prop) (x0 : Int64) (x4 : Int32) (t0 : Int32) (S : cS) : Prop :=
k_L_leafCount_176 Q dp R89 x0 x4 ((nI 0)) t0 S
def k_L_leafCount_152 (Q : Int32 → cS → Prop) (dp : Nat) (R89 : Int64 → Int32 → Int32 → cS → Prop) (x0 : Int64) (x3 : Int32) (x4 : Int32) (t0 : Int32) (S : cS) : Prop :=
k_L_has (fun r_7 S_7 => 
((r_7 = 0 →
  k_L_leafCount_175 Q dp R89 x0 x4 x3 S_7) ∧
 (¬ r_7 = 0 →
  ((t0 = 0 →
    k_L_leafCount_175 Q dp R89 x0 x4 x3 S_7) ∧
   (¬ t0 = 0 →
    k_L_leafCount_176 Q dp R89 x0 x4 ((nI 1)) x3 S_7))))) dp x0 ((nI 0)) x4 ((nI 0)) S
def k_L_leafCount_89 (Q : Int32 → cS → Prop) (dp : Nat) (R89 : Int64 → Int32 → Int32 → cS → Prop) (x0 : Int64) (x3 : Int32) (x4 : Int32) (S : cS) : Prop :=
((((nI 5)) ≤ x4 →
  Q x3 S) ∧
 (¬ ((nI 5)) ≤ x4 →
  k_L_has (fun r_6 S_6 => 
  ((¬ r_6 = 0 →
    k_L_leafCount_152 Q dp R89 x0 x3 x4 ((nI 1)) S_6) ∧
   (r_6 = 0 →
    k_L_has (fun r_10 S_10 => 
    ((¬ r_10 = 0 →
      k_L_leafCount_152 Q dp R89 x0 x3 x4 ((nI 1)) S_10) ∧
     (r_10 = 0 →
      k_L_has (fun r_11 S_11 => 
      ((¬ r_11 = 0 →
        k_L_leafCount_152 Q dp R89 x0 x3 x4 ((nI 1)) S_11) ∧
       (r_11 = 0 →
        k_L_has (fun r_12 S_12 => 
        ((r_12 = 0 →
          k_L_leafCount_152 Q dp R89 x0 x3 x4 ((nI 0)) S_12) ∧
         (¬ r_12 = 0 →
          k_L_leafCount_152 Q dp R89 x0 x3 x4 ((nI 1)) S_12))) dp x0 ((nI 0)) ((x4 + ((nI 2)))) ((nI 3)) S_11))) dp x0 ((nI 0)) ((x4 + ((nI 1)))) ((nI 3)) S_10))) dp x0 ((nI 0)) ((x4 - ((nI 1)))) ((nI 3)) S_6))) dp x0 ((nI 0)) ((x4 - ((nI 2)))) ((nI 3)) S))
def k_L_leafCount_89L (Q : Int32 → cS → Prop) (dp : Nat)  (x0 : Int64) (x3 : Int32) (x4 : Int32) (S : cS) : Prop :=
  lfp (X := Int64 × Int32 × Int32 × cS) (fun P y => k_L_leafCount_89 Q dp  (fun b0 b1 b2 S => P (b0, b1, b2, S)) y.1 y.2.1 y.2.2.1 y.2.2.2) (x0, x3, x4, S)
def k_L_leafCount_71 (Q : Int32 → cS → Prop) (dp : Nat) (R10 : Int64 → Int32 → Int32 → cS → Prop) (x0 : Int64) (x4 : Int32) (t0 : Int32) (t1 : Int32) (S : cS) : Prop :=
∀ x3_15 : Int32, x3_15 = (t1 + t0) → ∀ x4_16 : Int32, x4_16 = x4 + nI 1 → R10 x0 x3_15 x4_16 S
def k_L_leafCount_70 (Q : Int32 → cS → Prop) (dp : Nat) (R10 : Int64 → Int32 → Int32 → cS → Prop) (x0 : Int64) (x4 : Int32) (t0 : Int32) (S : cS) : Prop :=
k_L_leafCount_71 Q dp R10 x0 x4 ((nI 0)) t0 S
def k_L_leafCount_47 (Q : Int32 → cS → Prop) (dp : Nat) (R10 : Int64 → Int32 → Int32 → cS → Prop) (x0 : Int64) (x3 : Int32) (x4 : Int32) (t0 : Int32) (S : cS) : Prop :=
k_L_has (fun r_14 S_14 => 
((r_14 = 0 →
  k_L_leafCount_70 Q dp R10 x0 x4 x3 S_14) ∧
 (¬ r_14 = 0 →
  ((t0 = 0 →
    k_L_leafCount_70 Q dp R10 x0 x4 x3 S_14) ∧
   (¬ t0 = 0 →
    k_L_leafCount_71 Q dp R10 x0 x4 ((nI 1)) x3 S_14))))) dp x0 ((nI 0)) x4 ((nI 0)) S
def k_L_leafCount_10 (Q : Int32 → cS → Prop) (dp : Nat) (R10 : Int64 → Int32 → Int32 → cS → Prop) (x0 : Int64) (x3 : Int32) (x4 : Int32) (S : cS) : Prop :=
((((nI 5)) ≤ x4 →
  Q x3 S) ∧
 (¬ ((nI 5)) ≤ x4 →
  k_L_has (fun r_13 S_13 => 
  ((¬ r_13 = 0 →
    k_L_leafCount_47 Q dp R10 x0 x3 x4 ((nI 1)) S_13) ∧
   (r_13 = 0 →
    k_L_has (fun r_17 S_17 => 
    ((r_17 = 0 →
      k_L_leafCount_47 Q dp R10 x0 x3 x4 ((nI 0)) S_17) ∧
     (¬ r_17 = 0 →
      k_L_leafCount_47 Q dp R10 x0 x3 x4 ((nI 1)) S_17))) dp x0 ((nI 0)) ((x4 + ((nI 3)))) ((nI 2)) S_13))) dp x0 ((nI 0)) ((x4 + ((nI 2)))) ((nI 2)) S))
def k_L_leafCount_10L (Q : Int32 → cS → Prop) (dp : Nat)  (x0 : Int64) (x3 : Int32) (x4 : Int32) (S : cS) : Prop :=
  lfp (X := Int64 × Int32 × Int32 × cS) (fun P y => k_L_leafCount_10 Q dp  (fun b0 b1 b2 S => P (b0, b1, b2, S)) y.1 y.2.1 y.2.2.1 y.2.2.2) (x0, x3, x4, S)
def k_L_leafCount (Q : Int32 → cS → Prop) (dp : Nat) (x0 : Int64) (x2 : Int32) (S : cS) : Prop :=
((¬ x2 = ((nI 2)) →
  ((¬ x2 = ((nI 3)) →
    ((x2 = 0 →
      k_L_leafCount_196 Q dp  x0 S) ∧
     (¬ x2 = 0 →
      ((¬ x2 = ((nI 6)) →
        ((¬ x2 = ((nI 1)) →
          ((¬ x2 = ((nI 4)) →
            ((¬ x2 = ((nI 5)) →
              ((¬ x2 = ((nI 7)) →
                k_L_leafCount_260 Q dp  ((nI 4)) ((nI 0)) x0 S) ∧
               (x2 = ((nI 7)) →
                k_L_leafCount_260 Q dp  ((nI 3)) ((nI 0)) x0 S))) ∧
             (x2 = ((nI 5)) →
              k_L_count (fun r_3 S_3 => 
              Q r_3 S_3) dp x0 ((nI 1)) ((nI 4)) S))) ∧
           (x2 = ((nI 4)) →
            k_L_count (fun r_4 S_4 => 
            Q r_4 S_4) dp x0 ((nI 0)) ((nI 1)) S))) ∧
         (x2 = ((nI 1)) →
          k_L_count (fun r_5 S_5 => 
          Q r_5 S_5) dp x0 ((nI 1)) ((nI 2)) S))) ∧
       (x2 = ((nI 6)) →
        k_L_leafCount_196 Q dp  x0 S))))) ∧
   (x2 = ((nI 3)) →
    k_L_leafCount_89L Q dp  x0 (((nI 0))) (((nI 0))) S))) ∧
 (x2 = ((nI 2)) →
  k_L_leafCount_10L Q dp  x0 (((nI 0))) (((nI 0))) S))
def k_L_strength (Q : Int32 → cS → Prop) (dp : Nat) (x0 : Int32) (S : cS) : Prop :=
((¬ x0 = 0 →
  ¬ ((x0 + ((nI 1)))) = 0 ∧ (Q ((((nI 64)) - ((((((nI 64)) + x0)) / ((x0 + ((nI 1)))))))) S)) ∧
 (x0 = 0 →
  Q ((nI 0)) S))
def k_L_rarity_125 (Q : Int32 → cS → Prop) (dp : Nat) (R125 : Int32 → Int32 → Int32 → cS → Prop) (x6 : Int32) (x7 : Int32) (x8 : Int32) (S : cS) : Prop :=
¬ ((x7 + ((nI 1)))) = 0 ∧ (((((((((x6 + ((nI 1)))) / ((x7 + ((nI 1)))))) >>> (x8 &&& 31))) ≤ 0 →
  Q x8 S) ∧
 (¬ ((((((x6 + ((nI 1)))) / ((x7 + ((nI 1)))))) >>> (x8 &&& 31))) ≤ 0 →
  ∀ x8_1 : Int32, x8_1 = x8 + nI 1 → R125 x6 x7 x8_1 S)))
def k_L_rarity_125L (Q : Int32 → cS → Prop) (dp : Nat)  (x6 : Int32) (x7 : Int32) (x8 : Int32) (S : cS) : Prop :=
  lfp (X := Int32 × Int32 × Int32 × cS) (fun P y => k_L_rarity_125 Q dp  (fun b0 b1 b2 S => P (b0, b1, b2, S)) y.1 y.2.1 y.2.2.1 y.2.2.2) (x6, x7, x8, S)
def k_L_rarity_107 (Q : Int32 → cS → Prop) (dp : Nat) (R9 : Nat → Nat → Nat → Nat → Int32 → Int32 → Int32 → Int32 → Int32 → cS → Prop) (R28 : Nat → Nat → Nat → Nat → Int32 → Int32 → Int32 → Int32 → Int32 → Int32 → Int32 → cS → Prop) (x0 : Nat) (x1 : Nat) (x2 : Nat) (x3 : Nat) (x4 : Int32) (x5 : Int32) (x6 : Int32) (x8 : Int32) (x9 : Int32) (x10 : Int32) (t0 : Int32) (t1 : Int32) (S : cS) : Prop :=
∀ x7_5 : Int32, x7_5 = (t1 + t0) → ∀ x10_6 : Int32, x10_6 = x10 + nI 1 → R28 x0 x1 x2 x3 x4 x5 x6 x7_5 x8 x9 x10_6 S
def k_L_rarity_106 (Q : Int32 → cS → Prop) (dp : Nat) (R9 : Nat → Nat → Nat → Nat → Int32 → Int32 → Int32 → Int32 → Int32 → cS → Prop) (R28 : Nat → Nat → Nat → Nat → Int32 → Int32 → Int32 → Int32 → Int32 → Int32 → Int32 → cS → Prop) (x0 : Nat) (x1 : Nat) (x2 : Nat) (x3 : Nat) (x4 : Int32) (x5 : Int32) (x6 : Int32) (x8 : Int32) (x9 : Int32) (x10 : Int32) (t0 : Int32) (S : cS) : Prop :=
k_L_rarity_107 Q dp R9 R28 x0 x1 x2 x3 x4 x5 x6 x8 x9 x10 ((nI 0)) t0 S
def k_L_rarity_72 (Q : Int32 → cS → Prop) (dp : Nat) (R9 : Nat → Nat → Nat → Nat → Int32 → Int32 → Int32 → Int32 → Int32 → cS → Prop) (R28 : Nat → Nat → Nat → Nat → Int32 → Int32 → Int32 → Int32 → Int32 → Int32 → Int32 → cS → Prop) (x0 : Nat) (x1 : Nat) (x2 : Nat) (x3 : Nat) (x4 : Int32) (x5 : Int32) (x7 : Int32) (x8 : Int32) (x9 : Int32) (x10 : Int32) (x11 : Int32) (t0 : Int32) (t1 : Int32) (S : cS) : Prop :=
∀ x6_4 : Int32, x6_4 = (t1 + t0) → ((x11 = 0 →
  k_L_rarity_106 Q dp R9 R28 x0 x1 x2 x3 x4 x5 x6_4 x8 x9 x10 x7 S) ∧
 (¬ x11 = 0 →
  k_L_record (fun r_7 S_7 => 
  cX S_7 x0 15 r_7 ∧ (k_L_count (fun r_8 S_8 => 
  ((r_8 ≤ 0 →
    k_L_rarity_106 Q dp R9 R28 x0 x1 x2 x3 x4 x5 x6_4 x8 x9 x10 x7 S_8) ∧
   (¬ r_8 ≤ 0 →
    k_L_rarity_107 Q dp R9 R28 x0 x1 x2 x3 x4 x5 x6_4 x8 x9 x10 ((nI 1)) x7 S_8))) dp (cJ S_7 x0 (r_7).toNatClampNeg) x4 x5 S_7)) dp x1 x9 x10 S))
def k_L_rarity_58 (Q : Int32 → cS → Prop) (dp : Nat) (R9 : Nat → Nat → Nat → Nat → Int32 → Int32 → Int32 → Int32 → Int32 → cS → Prop) (R28 : Nat → Nat → Nat → Nat → Int32 → Int32 → Int32 → Int32 → Int32 → Int32 → Int32 → cS → Prop) (x0 : Nat) (x1 : Nat) (x2 : Nat) (x3 : Nat) (x4 : Int32) (x5 : Int32) (x6 : Int32) (x7 : Int32) (x8 : Int32) (x9 : Int32) (x10 : Int32) (t0 : Int32) (S : cS) : Prop :=
((t0 = 0 →
  k_L_rarity_72 Q dp R9 R28 x0 x1 x2 x3 x4 x5 x7 x8 x9 x10 t0 ((nI 0)) x6 S) ∧
 (¬ t0 = 0 →
  k_L_rarity_72 Q dp R9 R28 x0 x1 x2 x3 x4 x5 x7 x8 x9 x10 t0 ((nI 1)) x6 S))
def k_L_rarity_28 (Q : Int32 → cS → Prop) (dp : Nat) (R9 : Nat → Nat → Nat → Nat → Int32 → Int32 → Int32 → Int32 → Int32 → cS → Prop) (R28 : Nat → Nat → Nat → Nat → Int32 → Int32 → Int32 → Int32 → Int32 → Int32 → Int32 → cS → Prop) (x0 : Nat) (x1 : Nat) (x2 : Nat) (x3 : Nat) (x4 : Int32) (x5 : Int32) (x6 : Int32) (x7 : Int32) (x8 : Int32) (x9 : Int32) (x10 : Int32) (S : cS) : Prop :=
cX S x2 14 x9 ∧ (((((cI S x2 (x9).toNatClampNeg)) ≤ x10 →
  ∀ x8_3 : Int32, x8_3 = x8 + nI 1 → R9 x0 x1 x2 x3 x4 x5 x6 x7 x8_3 S) ∧
 (¬ ((cI S x2 (x9).toNatClampNeg)) ≤ x10 →
  cX S x3 14 ((((nI 32)) + x9)) ∧ (((¬ ((((((cI S x3 ((((nI 32)) + x9)).toNatClampNeg)) >>> (x10 &&& 31))) &&& ((nI 1)))) = ((nI 1)) →
    k_L_rarity_58 Q dp R9 R28 x0 x1 x2 x3 x4 x5 x6 x7 x8 x9 x10 ((nI 0)) S) ∧
   (((((((cI S x3 ((((nI 32)) + x9)).toNatClampNeg)) >>> (x10 &&& 31))) &&& ((nI 1)))) = ((nI 1)) →
    k_L_rarity_58 Q dp R9 R28 x0 x1 x2 x3 x4 x5 x6 x7 x8 x9 x10 ((nI 1)) S))))))
def k_L_rarity_28L (Q : Int32 → cS → Prop) (dp : Nat) (R9 : Nat → Nat → Nat → Nat → Int32 → Int32 → Int32 → Int32 → Int32 → cS → Prop) (x0 : Nat) (x1 : Nat) (x2 : Nat) (x3 : Nat) (x4 : Int32) (x5 : Int32) (x6 : Int32) (x7 : Int32) (x8 : Int32) (x9 : Int32) (x10 : Int32) (S : cS) : Prop :=
  lfp (X := Nat × Nat × Nat × Nat × Int32 × Int32 × Int32 × Int32 × Int32 × Int32 × Int32 × cS) (fun P y => k_L_rarity_28 Q dp R9 (fun b0 b1 b2 b3 b4 b5 b6 b7 b8 b9 b10 S => P (b0, b1, b2, b3, b4, b5, b6, b7, b8, b9, b10, S)) y.1 y.2.1 y.2.2.1 y.2.2.2.1 y.2.2.2.2.1 y.2.2.2.2.2.1 y.2.2.2.2.2.2.1 y.2.2.2.2.2.2.2.1 y.2.2.2.2.2.2.2.2.1 y.2.2.2.2.2.2.2.2.2.1 y.2.2.2.2.2.2.2.2.2.2.1 y.2.2.2.2.2.2.2.2.2.2.2) (x0, x1, x2, x3, x4, x5, x6, x7, x8, x9, x10, S)
def k_L_rarity_9 (Q : Int32 → cS → Prop) (dp : Nat) (R9 : Nat → Nat → Nat → Nat → Int32 → Int32 → Int32 → Int32 → Int32 → cS → Prop) (x0 : Nat) (x1 : Nat) (x2 : Nat) (x3 : Nat) (x4 : Int32) (x5 : Int32) (x6 : Int32) (x7 : Int32) (x8 : Int32) (S : cS) : Prop :=
cX S x3 14 ((nI 1)) ∧ (((((cI S x3 ((nI 1)).toNatClampNeg)) ≤ x8 →
  k_L_rarity_125L Q dp  x6 x7 (((nI 1))) S) ∧
 (¬ ((cI S x3 ((nI 1)).toNatClampNeg)) ≤ x8 →
  cX S x3 14 ((((nI 2)) + x8)) ∧ (∀ x9_2 : Int32, x9_2 = (cI S x3 ((((nI 2)) + x8)).toNatClampNeg) → k_L_rarity_28L Q dp R9 x0 x1 x2 x3 x4 x5 x6 x7 x8 x9_2 (((nI 0))) S))))
def k_L_rarity_9L (Q : Int32 → cS → Prop) (dp : Nat)  (x0 : Nat) (x1 : Nat) (x2 : Nat) (x3 : Nat) (x4 : Int32) (x5 : Int32) (x6 : Int32) (x7 : Int32) (x8 : Int32) (S : cS) : Prop :=
  lfp (X := Nat × Nat × Nat × Nat × Int32 × Int32 × Int32 × Int32 × Int32 × cS) (fun P y => k_L_rarity_9 Q dp  (fun b0 b1 b2 b3 b4 b5 b6 b7 b8 S => P (b0, b1, b2, b3, b4, b5, b6, b7, b8, S)) y.1 y.2.1 y.2.2.1 y.2.2.2.1 y.2.2.2.2.1 y.2.2.2.2.2.1 y.2.2.2.2.2.2.1 y.2.2.2.2.2.2.2.1 y.2.2.2.2.2.2.2.2.1 y.2.2.2.2.2.2.2.2.2) (x0, x1, x2, x3, x4, x5, x6, x7, x8, S)
def k_L_rarity (Q : Int32 → cS → Prop) (dp : Nat) (x0 : Nat) (x1 : Nat) (x2 : Nat) (x3 : Nat) (x4 : Int32) (x5 : Int32) (S : cS) : Prop :=
k_L_rarity_9L Q dp  x0 x1 x2 x3 x4 x5 (((nI 0))) (((nI 0))) (((nI 0))) S
def k_L_gains (Q : cS → Prop) (dp : Nat) (x0 : Nat) (x1 : Nat) (x2 : Nat) (x3 : Nat) (x4 : Nat) (S : cS) : Prop :=
k_L_rarity (fun r_1 S_1 => 
k_L_rarity (fun r_2 S_2 => 
k_L_rarity (fun r_3 S_3 => 
cX S_3 x4 14 ((nI 0)) ∧ (∀ S4 : cS, S4 = cSI S_3 x4 ((nI 0)).toNatClampNeg ((((nI 3)) * r_1)) → k_L_rarity (fun r_5 S_5 => 
cX S_5 x4 14 ((nI 1)) ∧ (∀ S6 : cS, S6 = cSI S_5 x4 ((nI 1)).toNatClampNeg r_5 → cX S6 x4 14 ((nI 2)) ∧ (∀ S7 : cS, S7 = cSI S6 x4 ((nI 2)).toNatClampNeg ((((nI 3)) * ((r_1 + r_2)))) → cX S7 x4 14 ((nI 3)) ∧ (∀ S8 : cS, S8 = cSI S7 x4 ((nI 3)).toNatClampNeg ((((nI 3)) * ((r_1 + r_3)))) → cX S8 x4 14 ((nI 4)) ∧ (∀ S9 : cS, S9 = cSI S8 x4 ((nI 4)).toNatClampNeg ((nI 96)) → cX S9 x4 14 ((nI 5)) ∧ (∀ S10 : cS, S10 = cSI S9 x4 ((nI 5)).toNatClampNeg ((nI 32)) → cX S10 x4 14 ((nI 6)) ∧ (∀ S11 : cS, S11 = cSI S10 x4 ((nI 6)).toNatClampNeg ((nI 96)) → cX S11 x4 14 ((nI 7)) ∧ (∀ S12 : cS, S12 = cSI S11 x4 ((nI 7)).toNatClampNeg ((((nI 3)) * r_3)) → k_L_rarity (fun r_13 S_13 => 
cX S_13 x4 14 ((nI 8)) ∧ (∀ S14 : cS, S14 = cSI S_13 x4 ((nI 8)).toNatClampNeg ((((nI 3)) * r_13)) → Q S14)) dp x0 x1 x2 x3 ((nI 0)) ((nI 4)) S12)))))))) dp x0 x1 x2 x3 ((nI 1)) ((nI 2)) S4)) dp x0 x1 x2 x3 ((nI 0)) ((nI 3)) S_2) dp x0 x1 x2 x3 ((nI 0)) ((nI 2)) S_1) dp x0 x1 x2 x3 ((nI 0)) ((nI 0)) S
def k_L_gives_33 (Q : Int32 → cS → Prop) (dp : Nat)  (x2 : Int32) (x3 : Nat) (x4 : Int32) (S : cS) : Prop :=
k_L_strength (fun r_2 S_2 => 
cX S_2 x3 14 x2 ∧ (Q ((r_2 * ((cI S_2 x3 (x2).toNatClampNeg)))) S_2)) dp x4 S
def k_L_gives (Q : Int32 → cS → Prop) (dp : Nat) (x0 : Int64) (x2 : Int32) (x3 : Nat) (S : cS) : Prop :=
k_L_leafCount (fun r_1 S_1 => 
((¬ r_1 = 0 →
  ((x2 ≤ ((nI 3)) →
    k_L_gives_33 Q dp  x2 x3 r_1 S_1) ∧
   (¬ x2 ≤ ((nI 3)) →
    ((((nI 7)) ≤ x2 →
      k_L_gives_33 Q dp  x2 x3 r_1 S_1) ∧
     (¬ ((nI 7)) ≤ x2 →
      cX S_1 x3 14 x2 ∧ (Q ((cI S_1 x3 (x2).toNatClampNeg)) S_1)))))) ∧
 (r_1 = 0 →
  Q ((nI 0)) S_1))) dp x0 x2 S
def k_L_rank (Q : Int32 → cS → Prop) (dp : Nat) (x0 : Int64) (x2 : Int32) (x3 : Nat) (S : cS) : Prop :=
((((nI 7)) ≤ x2 →
  k_L_gives (fun r_1 S_1 => 
  k_L_gives (fun r_2 S_2 => 
  k_L_gives (fun r_3 S_3 => 
  ((¬ x2 = ((nI 7)) →
    ((r_1 ≤ 0 →
      Q ((nI 0)) S_3) ∧
     (¬ r_1 ≤ 0 →
      ((r_3 ≤ 0 →
        Q ((nI 0)) S_3) ∧
       (¬ r_3 ≤ 0 →
        ((¬ r_2 = 0 →
          Q ((nI 0)) S_3) ∧
         (r_2 = 0 →
          Q ((r_1 + r_3)) S_3))))))) ∧
   (x2 = ((nI 7)) →
    Q ((((r_1 + r_2)) + r_3)) S_3))) dp x0 x2 x3 S_2) dp x0 ((nI 1)) x3 S_1) dp x0 ((nI 0)) x3 S) ∧
 (¬ ((nI 7)) ≤ x2 →
  k_L_gives (fun r_4 S_4 => 
  Q r_4 S_4) dp x0 x2 x3 S))
def k_L_bound_203 (Q : Int32 → cS → Prop) (dp : Nat) (R6 : Nat → Nat → Int32 → Int32 → Int32 → Int32 → Nat → Int32 → Int32 → cS → Prop) (x0 : Nat) (x1 : Nat) (x2 : Int32) (x3 : Int32) (x4 : Int32) (x5 : Int32) (x6 : Nat) (x8 : Int32) (t0 : Int32) (t1 : Int32) (S : cS) : Prop :=
∀ x7_2 : Int32, x7_2 = (t1 + t0) → ∀ x8_3 : Int32, x8_3 = x8 + nI 1 → R6 x0 x1 x2 x3 x4 x5 x6 x7_2 x8_3 S
def k_L_bound_192 (Q : Int32 → cS → Prop) (dp : Nat) (R6 : Nat → Nat → Int32 → Int32 → Int32 → Int32 → Nat → Int32 → Int32 → cS → Prop) (x0 : Nat) (x1 : Nat) (x2 : Int32) (x3 : Int32) (x4 : Int32) (x5 : Int32) (x6 : Nat) (x8 : Int32) (x10 : Int32) (t0 : Int32) (S : cS) : Prop :=
k_L_strength (fun r_1 S_1 => 
cX S_1 x6 14 x8 ∧ (k_L_bound_203 Q dp R6 x0 x1 x2 x3 x4 x5 x6 x8 ((r_1 * ((cI S_1 x6 (x8).toNatClampNeg)))) t0 S_1)) dp x10 S
def k_L_bound_160 (Q : Int32 → cS → Prop) (dp : Nat) (R6 : Nat → Nat → Int32 → Int32 → Int32 → Int32 → Nat → Int32 → Int32 → cS → Prop) (x0 : Nat) (x1 : Nat) (x2 : Int32) (x3 : Int32) (x4 : Int32) (x5 : Int32) (x6 : Nat) (x7 : Int32) (x8 : Int32) (x10 : Int32) (S : cS) : Prop :=
((¬ x10 = 0 →
  ((x8 ≤ ((nI 3)) →
    k_L_bound_192 Q dp R6 x0 x1 x2 x3 x4 x5 x6 x8 x10 x7 S) ∧
   (¬ x8 ≤ ((nI 3)) →
    ((((nI 7)) ≤ x8 →
      k_L_bound_192 Q dp R6 x0 x1 x2 x3 x4 x5 x6 x8 x10 x7 S) ∧
     (¬ ((nI 7)) ≤ x8 →
      cX S x6 14 x8 ∧ (k_L_bound_203 Q dp R6 x0 x1 x2 x3 x4 x5 x6 x8 ((cI S x6 (x8).toNatClampNeg)) x7 S)))))) ∧
 (x10 = 0 →
  k_L_bound_203 Q dp R6 x0 x1 x2 x3 x4 x5 x6 x8 ((nI 0)) x7 S))
def k_L_bound_152 (Q : Int32 → cS → Prop) (dp : Nat) (R6 : Nat → Nat → Int32 → Int32 → Int32 → Int32 → Nat → Int32 → Int32 → cS → Prop) (R84 : Nat → Nat → Int32 → Int32 → Int32 → Int32 → Nat → Int32 → Int32 → Int32 → Int32 → Int32 → cS → Prop) (x0 : Nat) (x1 : Nat) (x2 : Int32) (x3 : Int32) (x4 : Int32) (x5 : Int32) (x6 : Nat) (x7 : Int32) (x8 : Int32) (x9 : Int32) (x11 : Int32) (t0 : Int32) (S : cS) : Prop :=
∀ x11_7 : Int32, x11_7 = x11 + nI 1 → R84 x0 x1 x2 x3 x4 x5 x6 x7 x8 x9 t0 x11_7 S
def k_L_bound_136 (Q : Int32 → cS → Prop) (dp : Nat) (R6 : Nat → Nat → Int32 → Int32 → Int32 → Int32 → Nat → Int32 → Int32 → cS → Prop) (R84 : Nat → Nat → Int32 → Int32 → Int32 → Int32 → Nat → Int32 → Int32 → Int32 → Int32 → Int32 → cS → Prop) (x0 : Nat) (x1 : Nat) (x2 : Int32) (x3 : Int32) (x4 : Int32) (x5 : Int32) (x6 : Nat) (x7 : Int32) (x8 : Int32) (x9 : Int32) (x10 : Int32) (x11 : Int32) (t0 : Int32) (S : cS) : Prop :=
((t0 ≤ x10 →
  k_L_bound_152 Q dp R6 R84 x0 x1 x2 x3 x4 x5 x6 x7 x8 x9 x11 x10 S) ∧
 (¬ t0 ≤ x10 →
  k_L_bound_152 Q dp R6 R84 x0 x1 x2 x3 x4 x5 x6 x7 x8 x9 x11 t0 S))
def k_L_bound_119 (Q : Int32 → cS → Prop) (dp : Nat) (R6 : Nat → Nat → Int32 → Int32 → Int32 → Int32 → Nat → Int32 → Int32 → cS → Prop) (R84 : Nat → Nat → Int32 → Int32 → Int32 → Int32 → Nat → Int32 → Int32 → Int32 → Int32 → Int32 → cS → Prop) (x0 : Nat) (x1 : Nat) (x2 : Int32) (x3 : Int32) (x4 : Int32) (x5 : Int32) (x6 : Nat) (x7 : Int32) (x8 : Int32) (x9 : Int32) (x10 : Int32) (x11 : Int32) (x12 : Int64) (S : cS) : Prop :=
k_L_count (fun r_6 S_6 => 
k_L_bound_136 Q dp R6 R84 x0 x1 x2 x3 x4 x5 x6 x7 x8 x9 x10 x11 r_6 S_6) dp x12 ((nI 0)) ((nI 0)) S
def k_L_bound_84 (Q : Int32 → cS → Prop) (dp : Nat) (R6 : Nat → Nat → Int32 → Int32 → Int32 → Int32 → Nat → Int32 → Int32 → cS → Prop) (R84 : Nat → Nat → Int32 → Int32 → Int32 → Int32 → Nat → Int32 → Int32 → Int32 → Int32 → Int32 → cS → Prop) (x0 : Nat) (x1 : Nat) (x2 : Int32) (x3 : Int32) (x4 : Int32) (x5 : Int32) (x6 : Nat) (x7 : Int32) (x8 : Int32) (x9 : Int32) (x10 : Int32) (x11 : Int32) (S : cS) : Prop :=
((x4 ≤ x11 →
  k_L_bound_160 Q dp R6 x0 x1 x2 x3 x4 x5 x6 x7 x8 x10 S) ∧
 (¬ x4 ≤ x11 →
  ((x9 = 0 →
    k_L_bound_160 Q dp R6 x0 x1 x2 x3 x4 x5 x6 x7 x8 x10 S) ∧
   (¬ x9 = 0 →
    k_L_record (fun r_4 S_4 => 
    cX S_4 x0 15 r_4 ∧ (∀ x12_5 : Int64, x12_5 = cJ S_4 x0 (r_4).toNatClampNeg → ((x8 = ((nI 2)) →
      k_L_bound_119 Q dp R6 R84 x0 x1 x2 x3 x4 x5 x6 x7 x8 x9 x10 x11 x12_5 S_4) ∧
     (¬ x8 = ((nI 2)) →
      ((¬ x8 = ((nI 3)) →
        k_L_leafCount (fun r_8 S_8 => 
        k_L_bound_136 Q dp R6 R84 x0 x1 x2 x3 x4 x5 x6 x7 x8 x9 x10 x11 r_8 S_8) dp x12_5 x8 S_4) ∧
       (x8 = ((nI 3)) →
        k_L_bound_119 Q dp R6 R84 x0 x1 x2 x3 x4 x5 x6 x7 x8 x9 x10 x11 x12_5 S_4)))))) dp x1 x2 x11 S))))
def k_L_bound_84L (Q : Int32 → cS → Prop) (dp : Nat) (R6 : Nat → Nat → Int32 → Int32 → Int32 → Int32 → Nat → Int32 → Int32 → cS → Prop) (x0 : Nat) (x1 : Nat) (x2 : Int32) (x3 : Int32) (x4 : Int32) (x5 : Int32) (x6 : Nat) (x7 : Int32) (x8 : Int32) (x9 : Int32) (x10 : Int32) (x11 : Int32) (S : cS) : Prop :=
  lfp (X := Nat × Nat × Int32 × Int32 × Int32 × Int32 × Nat × Int32 × Int32 × Int32 × Int32 × Int32 × cS) (fun P y => k_L_bound_84 Q dp R6 (fun b0 b1 b2 b3 b4 b5 b6 b7 b8 b9 b10 b11 S => P (b0, b1, b2, b3, b4, b5, b6, b7, b8, b9, b10, b11, S)) y.1 y.2.1 y.2.2.1 y.2.2.2.1 y.2.2.2.2.1 y.2.2.2.2.2.1 y.2.2.2.2.2.2.1 y.2.2.2.2.2.2.2.1 y.2.2.2.2.2.2.2.2.1 y.2.2.2.2.2.2.2.2.2.1 y.2.2.2.2.2.2.2.2.2.2.1 y.2.2.2.2.2.2.2.2.2.2.2.1 y.2.2.2.2.2.2.2.2.2.2.2.2) (x0, x1, x2, x3, x4, x5, x6, x7, x8, x9, x10, x11, S)
def k_L_bound_76 (Q : Int32 → cS → Prop) (dp : Nat) (R6 : Nat → Nat → Int32 → Int32 → Int32 → Int32 → Nat → Int32 → Int32 → cS → Prop) (x0 : Nat) (x1 : Nat) (x2 : Int32) (x3 : Int32) (x4 : Int32) (x5 : Int32) (x6 : Nat) (x7 : Int32) (x8 : Int32) (t0 : Int32) (S : cS) : Prop :=
k_L_bound_84L Q dp R6 x0 x1 x2 x3 x4 x5 x6 x7 x8 t0 (((nI 0))) x3 S
def k_L_bound_75 (Q : Int32 → cS → Prop) (dp : Nat) (R6 : Nat → Nat → Int32 → Int32 → Int32 → Int32 → Nat → Int32 → Int32 → cS → Prop) (x0 : Nat) (x1 : Nat) (x2 : Int32) (x3 : Int32) (x4 : Int32) (x5 : Int32) (x6 : Nat) (x7 : Int32) (x8 : Int32) (S : cS) : Prop :=
k_L_bound_76 Q dp R6 x0 x1 x2 x3 x4 x5 x6 x7 x8 ((nI 0)) S
def k_L_bound_52 (Q : Int32 → cS → Prop) (dp : Nat) (R6 : Nat → Nat → Int32 → Int32 → Int32 → Int32 → Nat → Int32 → Int32 → cS → Prop) (x0 : Nat) (x1 : Nat) (x2 : Int32) (x3 : Int32) (x4 : Int32) (x5 : Int32) (x6 : Nat) (x7 : Int32) (x8 : Int32) (S : cS) : Prop :=
((¬ x5 = ((nI 8)) →
  k_L_bound_75 Q dp R6 x0 x1 x2 x3 x4 x5 x6 x7 x8 S) ∧
 (x5 = ((nI 8)) →
  ((x8 = 0 →
    k_L_bound_76 Q dp R6 x0 x1 x2 x3 x4 x5 x6 x7 x8 ((nI 1)) S) ∧
   (¬ x8 = 0 →
    ((¬ x8 = ((nI 8)) →
      k_L_bound_75 Q dp R6 x0 x1 x2 x3 x4 x5 x6 x7 x8 S) ∧
     (x8 = ((nI 8)) →
      k_L_bound_76 Q dp R6 x0 x1 x2 x3 x4 x5 x6 x7 x8 ((nI 1)) S))))))
def k_L_bound_27 (Q : Int32 → cS → Prop) (dp : Nat) (R6 : Nat → Nat → Int32 → Int32 → Int32 → Int32 → Nat → Int32 → Int32 → cS → Prop) (x0 : Nat) (x1 : Nat) (x2 : Int32) (x3 : Int32) (x4 : Int32) (x5 : Int32) (x6 : Nat) (x7 : Int32) (x8 : Int32) (S : cS) : Prop :=
((¬ x5 = ((nI 7)) →
  k_L_bound_52 Q dp R6 x0 x1 x2 x3 x4 x5 x6 x7 x8 S) ∧
 (x5 = ((nI 7)) →
  ((x8 = 0 →
    k_L_bound_76 Q dp R6 x0 x1 x2 x3 x4 x5 x6 x7 x8 ((nI 1)) S) ∧
   (¬ x8 = 0 →
    ((x8 = ((nI 1)) →
      k_L_bound_76 Q dp R6 x0 x1 x2 x3 x4 x5 x6 x7 x8 ((nI 1)) S) ∧
     (¬ x8 = ((nI 1)) →
      ((x8 = ((nI 7)) →
        k_L_bound_76 Q dp R6 x0 x1 x2 x3 x4 x5 x6 x7 x8 ((nI 1)) S) ∧
       (¬ x8 = ((nI 7)) →
        k_L_bound_52 Q dp R6 x0 x1 x2 x3 x4 x5 x6 x7 x8 S))))))))
def k_L_bound_6 (Q : Int32 → cS → Prop) (dp : Nat) (R6 : Nat → Nat → Int32 → Int32 → Int32 → Int32 → Nat → Int32 → Int32 → cS → Prop) (x0 : Nat) (x1 : Nat) (x2 : Int32) (x3 : Int32) (x4 : Int32) (x5 : Int32) (x6 : Nat) (x7 : Int32) (x8 : Int32) (S : cS) : Prop :=
((((nI 9)) ≤ x8 →
  Q x7 S) ∧
 (¬ ((nI 9)) ≤ x8 →
  ((¬ x8 = x5 →
    k_L_bound_27 Q dp R6 x0 x1 x2 x3 x4 x5 x6 x7 x8 S) ∧
   (x8 = x5 →
    ((x5 < ((nI 7)) →
      k_L_bound_76 Q dp R6 x0 x1 x2 x3 x4 x5 x6 x7 x8 ((nI 1)) S) ∧
     (¬ x5 < ((nI 7)) →
      k_L_bound_27 Q dp R6 x0 x1 x2 x3 x4 x5 x6 x7 x8 S))))))
def k_L_bound_6L (Q : Int32 → cS → Prop) (dp : Nat)  (x0 : Nat) (x1 : Nat) (x2 : Int32) (x3 : Int32) (x4 : Int32) (x5 : Int32) (x6 : Nat) (x7 : Int32) (x8 : Int32) (S : cS) : Prop :=
  lfp (X := Nat × Nat × Int32 × Int32 × Int32 × Int32 × Nat × Int32 × Int32 × cS) (fun P y => k_L_bound_6 Q dp  (fun b0 b1 b2 b3 b4 b5 b6 b7 b8 S => P (b0, b1, b2, b3, b4, b5, b6, b7, b8, S)) y.1 y.2.1 y.2.2.1 y.2.2.2.1 y.2.2.2.2.1 y.2.2.2.2.2.1 y.2.2.2.2.2.2.1 y.2.2.2.2.2.2.2.1 y.2.2.2.2.2.2.2.2.1 y.2.2.2.2.2.2.2.2.2) (x0, x1, x2, x3, x4, x5, x6, x7, x8, S)
def k_L_bound (Q : Int32 → cS → Prop) (dp : Nat) (x0 : Nat) (x1 : Nat) (x2 : Int32) (x3 : Int32) (x4 : Int32) (x5 : Int32) (x6 : Nat) (S : cS) : Prop :=
k_L_bound_6L Q dp  x0 x1 x2 x3 x4 x5 x6 (((nI 0))) (((nI 0))) S
def k_L_find_525 (Q : cS → Prop) (dp : Nat) (mc ms : Nat) (R36 : Nat → Nat → Nat → Nat → Nat → Nat → Nat → Int32 → Int32 → Nat → Int32 → Nat → Nat → cS → Prop) (R209 : Nat → Nat → Nat → Nat → Nat → Nat → Nat → Int32 → Int32 → Nat → Int32 → Int32 → Int32 → Nat → Nat → cS → Prop) (x0 : Nat) (x1 : Nat) (x2 : Nat) (x3 : Nat) (x4 : Nat) (x5 : Nat) (x6 : Nat) (x7 : Int32) (x8 : Int32) (x9 : Nat) (x10 : Int32) (x11 : Int32) (x13 : Int32) (cd dd : Nat) (S : cS) : Prop :=
∀ x13_13 : Int32, x13_13 = x13 + nI 4 → R209 x0 x1 x2 x3 x4 x5 x6 x7 x8 x9 x10 x11 x13_13 cd dd S
def k_L_find_519 (Q : cS → Prop) (dp : Nat) (mc ms : Nat) (R36 : Nat → Nat → Nat → Nat → Nat → Nat → Nat → Int32 → Int32 → Nat → Int32 → Nat → Nat → cS → Prop) (R209 : Nat → Nat → Nat → Nat → Nat → Nat → Nat → Int32 → Int32 → Nat → Int32 → Int32 → Int32 → Nat → Nat → cS → Prop) (R309 : Nat → Nat → Nat → Nat → Nat → Nat → Nat → Int32 → Int32 → Nat → Int32 → Int32 → Int32 → Int32 → Int32 → Int32 → Nat → Nat → cS → Prop) (x0 : Nat) (x1 : Nat) (x2 : Nat) (x3 : Nat) (x4 : Nat) (x5 : Nat) (x6 : Nat) (x7 : Int32) (x8 : Int32) (x9 : Nat) (x10 : Int32) (x11 : Int32) (x13 : Int32) (x14 : Int32) (x15 : Int32) (x16 : Int32) (cd dd : Nat) (S : cS) : Prop :=
∀ x16_16 : Int32, x16_16 = x16 + nI 1 → R309 x0 x1 x2 x3 x4 x5 x6 x7 x8 x9 x10 x11 x13 x14 x15 x16_16 cd dd S
def k_L_find_517 (Q : cS → Prop) (dp : Nat) (mc ms : Nat) (R36 : Nat → Nat → Nat → Nat → Nat → Nat → Nat → Int32 → Int32 → Nat → Int32 → Nat → Nat → cS → Prop) (R209 : Nat → Nat → Nat → Nat → Nat → Nat → Nat → Int32 → Int32 → Nat → Int32 → Int32 → Int32 → Nat → Nat → cS → Prop) (R309 : Nat → Nat → Nat → Nat → Nat → Nat → Nat → Int32 → Int32 → Nat → Int32 → Int32 → Int32 → Int32 → Int32 → Int32 → Nat → Nat → cS → Prop) (x0 : Nat) (x1 : Nat) (x2 : Nat) (x3 : Nat) (x4 : Nat) (x5 : Nat) (x6 : Nat) (x7 : Int32) (x8 : Int32) (x9 : Nat) (x10 : Int32) (x11 : Int32) (x13 : Int32) (x14 : Int32) (x15 : Int32) (x16 : Int32) (t0 : Int32) (t1 : Int32) (t2 : Int32) (t3 : Nat) (cd dd : Nat) (S : cS) : Prop :=
cX S t3 14 t2 ∧ (∀ S19 : cS, S19 = cSI S t3 (t2).toNatClampNeg ((t1 + t0)) → k_L_find_519 Q dp mc ms R36 R209 R309 x0 x1 x2 x3 x4 x5 x6 x7 x8 x9 x10 x11 x13 x14 x15 x16 cd dd S19)
def k_L_find_474 (Q : cS → Prop) (dp : Nat) (mc ms : Nat) (R36 : Nat → Nat → Nat → Nat → Nat → Nat → Nat → Int32 → Int32 → Nat → Int32 → Nat → Nat → cS → Prop) (R209 : Nat → Nat → Nat → Nat → Nat → Nat → Nat → Int32 → Int32 → Nat → Int32 → Int32 → Int32 → Nat → Nat → cS → Prop) (R309 : Nat → Nat → Nat → Nat → Nat → Nat → Nat → Int32 → Int32 → Nat → Int32 → Int32 → Int32 → Int32 → Int32 → Int32 → Nat → Nat → cS → Prop) (x0 : Nat) (x1 : Nat) (x2 : Nat) (x3 : Nat) (x4 : Nat) (x5 : Nat) (x6 : Nat) (x7 : Int32) (x8 : Int32) (x9 : Nat) (x10 : Int32) (x11 : Int32) (x13 : Int32) (x14 : Int32) (x15 : Int32) (x16 : Int32) (x17 : Int64) (x19 : Int32) (x20 : Int32) (cd dd : Nat) (S : cS) : Prop :=
cX S x5 14 x20 ∧ (∀ S17 : cS, S17 = cSI S x5 (x20).toNatClampNeg (((x17 &&& 15).toInt32)) → cX S17 x5 14 ((((nI 20)) + x20)) ∧ (∀ S18 : cS, S18 = cSI S17 x5 ((((nI 20)) + x20)).toNatClampNeg x19 → cX S18 x6 14 ((nI 14)) ∧ (cX S18 x6 14 ((nI 14)) ∧ (((x8 ≤ ((cI S18 x6 ((nI 14)).toNatClampNeg)) →
  k_L_find_517 Q dp mc ms R36 R209 R309 x0 x1 x2 x3 x4 x5 x6 x7 x8 x9 x10 x11 x13 x14 x15 x16 ((nI 0)) ((cI S18 x6 ((nI 14)).toNatClampNeg)) ((nI 14)) x6 cd dd S18) ∧
 (¬ x8 ≤ ((cI S18 x6 ((nI 14)).toNatClampNeg)) →
  k_L_find_517 Q dp mc ms R36 R209 R309 x0 x1 x2 x3 x4 x5 x6 x7 x8 x9 x10 x11 x13 x14 x15 x16 ((nI 1)) ((cI S18 x6 ((nI 14)).toNatClampNeg)) ((nI 14)) x6 cd dd S18))))))
def k_L_find_418 (Q : cS → Prop) (dp : Nat) (mc ms : Nat) (R36 : Nat → Nat → Nat → Nat → Nat → Nat → Nat → Int32 → Int32 → Nat → Int32 → Nat → Nat → cS → Prop) (R209 : Nat → Nat → Nat → Nat → Nat → Nat → Nat → Int32 → Int32 → Nat → Int32 → Int32 → Int32 → Nat → Nat → cS → Prop) (R309 : Nat → Nat → Nat → Nat → Nat → Nat → Nat → Int32 → Int32 → Nat → Int32 → Int32 → Int32 → Int32 → Int32 → Int32 → Nat → Nat → cS → Prop) (R418 : Nat → Nat → Nat → Nat → Nat → Nat → Nat → Int32 → Int32 → Nat → Int32 → Int32 → Int32 → Int32 → Int32 → Int32 → Int64 → Int32 → Int32 → Nat → Nat → cS → Prop) (x0 : Nat) (x1 : Nat) (x2 : Nat) (x3 : Nat) (x4 : Nat) (x5 : Nat) (x6 : Nat) (x7 : Int32) (x8 : Int32) (x9 : Nat) (x10 : Int32) (x11 : Int32) (x13 : Int32) (x14 : Int32) (x15 : Int32) (x16 : Int32) (x17 : Int64) (x19 : Int32) (x20 : Int32) (cd dd : Nat) (S : cS) : Prop :=
((x20 ≤ 0 →
  k_L_find_474 Q dp mc ms R36 R209 R309 x0 x1 x2 x3 x4 x5 x6 x7 x8 x9 x10 x11 x13 x14 x15 x16 x17 x19 x20 cd dd S) ∧
 (¬ x20 ≤ 0 →
  cX S x5 14 ((((((nI 20)) + x20)) - ((nI 1)))) ∧ (((x19 ≤ ((cI S x5 ((((((nI 20)) + x20)) - ((nI 1)))).toNatClampNeg)) →
    k_L_find_474 Q dp mc ms R36 R209 R309 x0 x1 x2 x3 x4 x5 x6 x7 x8 x9 x10 x11 x13 x14 x15 x16 x17 x19 x20 cd dd S) ∧
   (¬ x19 ≤ ((cI S x5 ((((((nI 20)) + x20)) - ((nI 1)))).toNatClampNeg)) →
    cX S x5 14 ((x20 - ((nI 1)))) ∧ (cX S x5 14 x20 ∧ (∀ S20 : cS, S20 = cSI S x5 (x20).toNatClampNeg ((cI S x5 ((x20 - ((nI 1)))).toNatClampNeg)) → cX S20 x5 14 ((((((nI 20)) + x20)) - ((nI 1)))) ∧ (cX S20 x5 14 ((((nI 20)) + x20)) ∧ (∀ S21 : cS, S21 = cSI S20 x5 ((((nI 20)) + x20)).toNatClampNeg ((cI S20 x5 ((((((nI 20)) + x20)) - ((nI 1)))).toNatClampNeg)) → ∀ x20_22 : Int32, x20_22 = x20 + (-1) → R418 x0 x1 x2 x3 x4 x5 x6 x7 x8 x9 x10 x11 x13 x14 x15 x16 x17 x19 x20_22 cd dd S21)))))))))
def k_L_find_418L (Q : cS → Prop) (dp : Nat) (mc ms : Nat) (R36 : Nat → Nat → Nat → Nat → Nat → Nat → Nat → Int32 → Int32 → Nat → Int32 → Nat → Nat → cS → Prop) (R209 : Nat → Nat → Nat → Nat → Nat → Nat → Nat → Int32 → Int32 → Nat → Int32 → Int32 → Int32 → Nat → Nat → cS → Prop) (R309 : Nat → Nat → Nat → Nat → Nat → Nat → Nat → Int32 → Int32 → Nat → Int32 → Int32 → Int32 → Int32 → Int32 → Int32 → Nat → Nat → cS → Prop) (x0 : Nat) (x1 : Nat) (x2 : Nat) (x3 : Nat) (x4 : Nat) (x5 : Nat) (x6 : Nat) (x7 : Int32) (x8 : Int32) (x9 : Nat) (x10 : Int32) (x11 : Int32) (x13 : Int32) (x14 : Int32) (x15 : Int32) (x16 : Int32) (x17 : Int64) (x19 : Int32) (x20 : Int32) (cd dd : Nat) (S : cS) : Prop :=
  lfp (X := Nat × Nat × Nat × Nat × Nat × Nat × Nat × Int32 × Int32 × Nat × Int32 × Int32 × Int32 × Int32 × Int32 × Int32 × Int64 × Int32 × Int32 × Nat × Nat × cS) (fun P y => k_L_find_418 Q dp mc ms R36 R209 R309 (fun b0 b1 b2 b3 b4 b5 b6 b7 b8 b9 b10 b11 b12 b13 b14 b15 b16 b17 b18 b19 b20 S => P (b0, b1, b2, b3, b4, b5, b6, b7, b8, b9, b10, b11, b12, b13, b14, b15, b16, b17, b18, b19, b20, S)) y.1 y.2.1 y.2.2.1 y.2.2.2.1 y.2.2.2.2.1 y.2.2.2.2.2.1 y.2.2.2.2.2.2.1 y.2.2.2.2.2.2.2.1 y.2.2.2.2.2.2.2.2.1 y.2.2.2.2.2.2.2.2.2.1 y.2.2.2.2.2.2.2.2.2.2.1 y.2.2.2.2.2.2.2.2.2.2.2.1 y.2.2.2.2.2.2.2.2.2.2.2.2.1 y.2.2.2.2.2.2.2.2.2.2.2.2.2.1 y.2.2.2.2.2.2.2.2.2.2.2.2.2.2.1 y.2.2.2.2.2.2.2.2.2.2.2.2.2.2.2.1 y.2.2.2.2.2.2.2.2.2.2.2.2.2.2.2.2.1 y.2.2.2.2.2.2.2.2.2.2.2.2.2.2.2.2.2.1 y.2.2.2.2.2.2.2.2.2.2.2.2.2.2.2.2.2.2.1 y.2.2.2.2.2.2.2.2.2.2.2.2.2.2.2.2.2.2.2.1 y.2.2.2.2.2.2.2.2.2.2.2.2.2.2.2.2.2.2.2.2.1 y.2.2.2.2.2.2.2.2.2.2.2.2.2.2.2.2.2.2.2.2.2) (x0, x1, x2, x3, x4, x5, x6, x7, x8, x9, x10, x11, x13, x14, x15, x16, x17, x19, x20, cd, dd, S)
def k_L_find_416 (Q : cS → Prop) (dp : Nat) (mc ms : Nat) (R36 : Nat → Nat → Nat → Nat → Nat → Nat → Nat → Int32 → Int32 → Nat → Int32 → Nat → Nat → cS → Prop) (R209 : Nat → Nat → Nat → Nat → Nat → Nat → Nat → Int32 → Int32 → Nat → Int32 → Int32 → Int32 → Nat → Nat → cS → Prop) (R309 : Nat → Nat → Nat → Nat → Nat → Nat → Nat → Int32 → Int32 → Nat → Int32 → Int32 → Int32 → Int32 → Int32 → Int32 → Nat → Nat → cS → Prop) (x0 : Nat) (x1 : Nat) (x2 : Nat) (x3 : Nat) (x4 : Nat) (x5 : Nat) (x6 : Nat) (x7 : Int32) (x8 : Int32) (x9 : Nat) (x10 : Int32) (x11 : Int32) (x13 : Int32) (x14 : Int32) (x15 : Int32) (x16 : Int32) (x17 : Int64) (x19 : Int32) (t0 : Int32) (cd dd : Nat) (S : cS) : Prop :=
k_L_find_418L Q dp mc ms R36 R209 R309 x0 x1 x2 x3 x4 x5 x6 x7 x8 x9 x10 x11 x13 x14 x15 x16 x17 x19 t0 cd dd S
def k_L_find_394 (Q : cS → Prop) (dp : Nat) (mc ms : Nat) (R36 : Nat → Nat → Nat → Nat → Nat → Nat → Nat → Int32 → Int32 → Nat → Int32 → Nat → Nat → cS → Prop) (R209 : Nat → Nat → Nat → Nat → Nat → Nat → Nat → Int32 → Int32 → Nat → Int32 → Int32 → Int32 → Nat → Nat → cS → Prop) (R309 : Nat → Nat → Nat → Nat → Nat → Nat → Nat → Int32 → Int32 → Nat → Int32 → Int32 → Int32 → Int32 → Int32 → Int32 → Nat → Nat → cS → Prop) (x0 : Nat) (x1 : Nat) (x2 : Nat) (x3 : Nat) (x4 : Nat) (x5 : Nat) (x6 : Nat) (x7 : Int32) (x8 : Int32) (x9 : Nat) (x10 : Int32) (x11 : Int32) (x13 : Int32) (x14 : Int32) (x15 : Int32) (x16 : Int32) (x17 : Int64) (x19 : Int32) (cd dd : Nat) (S : cS) : Prop :=
cX S x6 14 ((nI 14)) ∧ (((x8 ≤ ((cI S x6 ((nI 14)).toNatClampNeg)) →
  k_L_find_416 Q dp mc ms R36 R209 R309 x0 x1 x2 x3 x4 x5 x6 x7 x8 x9 x10 x11 x13 x14 x15 x16 x17 x19 ((x8 - ((nI 1)))) cd dd S) ∧
 (¬ x8 ≤ ((cI S x6 ((nI 14)).toNatClampNeg)) →
  cX S x6 14 ((nI 14)) ∧ (k_L_find_416 Q dp mc ms R36 R209 R309 x0 x1 x2 x3 x4 x5 x6 x7 x8 x9 x10 x11 x13 x14 x15 x16 x17 x19 ((cI S x6 ((nI 14)).toNatClampNeg)) cd dd S))))
def k_L_find_362 (Q : cS → Prop) (dp : Nat) (mc ms : Nat) (R36 : Nat → Nat → Nat → Nat → Nat → Nat → Nat → Int32 → Int32 → Nat → Int32 → Nat → Nat → cS → Prop) (R209 : Nat → Nat → Nat → Nat → Nat → Nat → Nat → Int32 → Int32 → Nat → Int32 → Int32 → Int32 → Nat → Nat → cS → Prop) (R309 : Nat → Nat → Nat → Nat → Nat → Nat → Nat → Int32 → Int32 → Nat → Int32 → Int32 → Int32 → Int32 → Int32 → Int32 → Nat → Nat → cS → Prop) (x0 : Nat) (x1 : Nat) (x2 : Nat) (x3 : Nat) (x4 : Nat) (x5 : Nat) (x6 : Nat) (x7 : Int32) (x8 : Int32) (x9 : Nat) (x10 : Int32) (x11 : Int32) (x13 : Int32) (x14 : Int32) (x15 : Int32) (x16 : Int32) (x17 : Int64) (t0 : Int32) (cd dd : Nat) (S : cS) : Prop :=
((t0 ≤ 0 →
  k_L_find_519 Q dp mc ms R36 R209 R309 x0 x1 x2 x3 x4 x5 x6 x7 x8 x9 x10 x11 x13 x14 x15 x16 cd dd S) ∧
 (¬ t0 ≤ 0 →
  cX S x6 14 ((nI 14)) ∧ (((((cI S x6 ((nI 14)).toNatClampNeg)) < x8 →
    k_L_find_394 Q dp mc ms R36 R209 R309 x0 x1 x2 x3 x4 x5 x6 x7 x8 x9 x10 x11 x13 x14 x15 x16 x17 t0 cd dd S) ∧
   (¬ ((cI S x6 ((nI 14)).toNatClampNeg)) < x8 →
    cX S x5 14 ((((((nI 20)) + x8)) - ((nI 1)))) ∧ (((t0 ≤ ((cI S x5 ((((((nI 20)) + x8)) - ((nI 1)))).toNatClampNeg)) →
      k_L_find_519 Q dp mc ms R36 R209 R309 x0 x1 x2 x3 x4 x5 x6 x7 x8 x9 x10 x11 x13 x14 x15 x16 cd dd S) ∧
     (¬ t0 ≤ ((cI S x5 ((((((nI 20)) + x8)) - ((nI 1)))).toNatClampNeg)) →
      k_L_find_394 Q dp mc ms R36 R209 R309 x0 x1 x2 x3 x4 x5 x6 x7 x8 x9 x10 x11 x13 x14 x15 x16 x17 t0 cd dd S))))))))
def k_L_find_309 (Q : cS → Prop) (dp : Nat) (mc ms : Nat) (R36 : Nat → Nat → Nat → Nat → Nat → Nat → Nat → Int32 → Int32 → Nat → Int32 → Nat → Nat → cS → Prop) (R209 : Nat → Nat → Nat → Nat → Nat → Nat → Nat → Int32 → Int32 → Nat → Int32 → Int32 → Int32 → Nat → Nat → cS → Prop) (R309 : Nat → Nat → Nat → Nat → Nat → Nat → Nat → Int32 → Int32 → Nat → Int32 → Int32 → Int32 → Int32 → Int32 → Int32 → Nat → Nat → cS → Prop) (x0 : Nat) (x1 : Nat) (x2 : Nat) (x3 : Nat) (x4 : Nat) (x5 : Nat) (x6 : Nat) (x7 : Int32) (x8 : Int32) (x9 : Nat) (x10 : Int32) (x11 : Int32) (x13 : Int32) (x14 : Int32) (x15 : Int32) (x16 : Int32) (cd dd : Nat) (S : cS) : Prop :=
((x14 ≤ x16 →
  k_L_find_525 Q dp mc ms R36 R209 x0 x1 x2 x3 x4 x5 x6 x7 x8 x9 x10 x11 x13 cd dd S) ∧
 (¬ x14 ≤ x16 →
  ((¬ x15 = 0 →
    k_L_find_525 Q dp mc ms R36 R209 x0 x1 x2 x3 x4 x5 x6 x7 x8 x9 x10 x11 x13 cd dd S) ∧
   (x15 = 0 →
    (cd ≤ mc ∧ dd ≤ ms) ∧ (k_L_record (fun r_14 S_14 => 
    cX S_14 x0 15 r_14 ∧ (∀ x17_15 : Int64, x17_15 = cJ S_14 x0 (r_14).toNatClampNeg → cX S_14 x3 14 ((((nI 32)) + x11)) ∧ (((¬ ((((((cI S_14 x3 ((((nI 32)) + x11)).toNatClampNeg)) >>> (x16 &&& 31))) &&& ((nI 1)))) = ((nI 1)) →
      k_L_find_362 Q dp mc ms R36 R209 R309 x0 x1 x2 x3 x4 x5 x6 x7 x8 x9 x10 x11 x13 x14 x15 x16 x17_15 ((nI 0)) cd dd S_14) ∧
     (((((((cI S_14 x3 ((((nI 32)) + x11)).toNatClampNeg)) >>> (x16 &&& 31))) &&& ((nI 1)))) = ((nI 1)) →
      (cd ≤ mc ∧ dd ≤ ms) ∧ (k_L_rank (fun r_23 S_23 => 
      k_L_find_362 Q dp mc ms R36 R209 R309 x0 x1 x2 x3 x4 x5 x6 x7 x8 x9 x10 x11 x13 x14 x15 x16 x17_15 r_23 cd dd S_23) dp x17_15 x7 x9 S_14)))))) dp x1 x11 x16 S)))))
def k_L_find_309L (Q : cS → Prop) (dp : Nat) (mc ms : Nat) (R36 : Nat → Nat → Nat → Nat → Nat → Nat → Nat → Int32 → Int32 → Nat → Int32 → Nat → Nat → cS → Prop) (R209 : Nat → Nat → Nat → Nat → Nat → Nat → Nat → Int32 → Int32 → Nat → Int32 → Int32 → Int32 → Nat → Nat → cS → Prop) (x0 : Nat) (x1 : Nat) (x2 : Nat) (x3 : Nat) (x4 : Nat) (x5 : Nat) (x6 : Nat) (x7 : Int32) (x8 : Int32) (x9 : Nat) (x10 : Int32) (x11 : Int32) (x13 : Int32) (x14 : Int32) (x15 : Int32) (x16 : Int32) (cd dd : Nat) (S : cS) : Prop :=
  lfp (X := Nat × Nat × Nat × Nat × Nat × Nat × Nat × Int32 × Int32 × Nat × Int32 × Int32 × Int32 × Int32 × Int32 × Int32 × Nat × Nat × cS) (fun P y => k_L_find_309 Q dp mc ms R36 R209 (fun b0 b1 b2 b3 b4 b5 b6 b7 b8 b9 b10 b11 b12 b13 b14 b15 b16 b17 S => P (b0, b1, b2, b3, b4, b5, b6, b7, b8, b9, b10, b11, b12, b13, b14, b15, b16, b17, S)) y.1 y.2.1 y.2.2.1 y.2.2.2.1 y.2.2.2.2.1 y.2.2.2.2.2.1 y.2.2.2.2.2.2.1 y.2.2.2.2.2.2.2.1 y.2.2.2.2.2.2.2.2.1 y.2.2.2.2.2.2.2.2.2.1 y.2.2.2.2.2.2.2.2.2.2.1 y.2.2.2.2.2.2.2.2.2.2.2.1 y.2.2.2.2.2.2.2.2.2.2.2.2.1 y.2.2.2.2.2.2.2.2.2.2.2.2.2.1 y.2.2.2.2.2.2.2.2.2.2.2.2.2.2.1 y.2.2.2.2.2.2.2.2.2.2.2.2.2.2.2.1 y.2.2.2.2.2.2.2.2.2.2.2.2.2.2.2.2.1 y.2.2.2.2.2.2.2.2.2.2.2.2.2.2.2.2.2.1 y.2.2.2.2.2.2.2.2.2.2.2.2.2.2.2.2.2.2) (x0, x1, x2, x3, x4, x5, x6, x7, x8, x9, x10, x11, x13, x14, x15, x16, cd, dd, S)
def k_L_find_303 (Q : cS → Prop) (dp : Nat) (mc ms : Nat) (R36 : Nat → Nat → Nat → Nat → Nat → Nat → Nat → Int32 → Int32 → Nat → Int32 → Nat → Nat → cS → Prop) (R209 : Nat → Nat → Nat → Nat → Nat → Nat → Nat → Int32 → Int32 → Nat → Int32 → Int32 → Int32 → Nat → Nat → cS → Prop) (x0 : Nat) (x1 : Nat) (x2 : Nat) (x3 : Nat) (x4 : Nat) (x5 : Nat) (x6 : Nat) (x7 : Int32) (x8 : Int32) (x9 : Nat) (x10 : Int32) (x11 : Int32) (x13 : Int32) (x14 : Int32) (x15 : Int32) (t0 : Int32) (t1 : Int32) (t2 : Int32) (t3 : Nat) (cd dd : Nat) (S : cS) : Prop :=
cX S t3 14 t2 ∧ (∀ S12 : cS, S12 = cSI S t3 (t2).toNatClampNeg ((t1 + t0)) → k_L_find_309L Q dp mc ms R36 R209 x0 x1 x2 x3 x4 x5 x6 x7 x8 x9 x10 x11 x13 x14 x15 x13 cd dd S12)
def k_L_find_285 (Q : cS → Prop) (dp : Nat) (mc ms : Nat) (R36 : Nat → Nat → Nat → Nat → Nat → Nat → Nat → Int32 → Int32 → Nat → Int32 → Nat → Nat → cS → Prop) (R209 : Nat → Nat → Nat → Nat → Nat → Nat → Nat → Int32 → Int32 → Nat → Int32 → Int32 → Int32 → Nat → Nat → cS → Prop) (x0 : Nat) (x1 : Nat) (x2 : Nat) (x3 : Nat) (x4 : Nat) (x5 : Nat) (x6 : Nat) (x7 : Int32) (x8 : Int32) (x9 : Nat) (x10 : Int32) (x11 : Int32) (x13 : Int32) (x14 : Int32) (t0 : Int32) (cd dd : Nat) (S : cS) : Prop :=
cX S x6 14 ((nI 15)) ∧ (((t0 = 0 →
  k_L_find_303 Q dp mc ms R36 R209 x0 x1 x2 x3 x4 x5 x6 x7 x8 x9 x10 x11 x13 x14 t0 ((nI 0)) ((cI S x6 ((nI 15)).toNatClampNeg)) ((nI 15)) x6 cd dd S) ∧
 (¬ t0 = 0 →
  k_L_find_303 Q dp mc ms R36 R209 x0 x1 x2 x3 x4 x5 x6 x7 x8 x9 x10 x11 x13 x14 t0 ((nI 1)) ((cI S x6 ((nI 15)).toNatClampNeg)) ((nI 15)) x6 cd dd S)))
def k_L_find_284 (Q : cS → Prop) (dp : Nat) (mc ms : Nat) (R36 : Nat → Nat → Nat → Nat → Nat → Nat → Nat → Int32 → Int32 → Nat → Int32 → Nat → Nat → cS → Prop) (R209 : Nat → Nat → Nat → Nat → Nat → Nat → Nat → Int32 → Int32 → Nat → Int32 → Int32 → Int32 → Nat → Nat → cS → Prop) (x0 : Nat) (x1 : Nat) (x2 : Nat) (x3 : Nat) (x4 : Nat) (x5 : Nat) (x6 : Nat) (x7 : Int32) (x8 : Int32) (x9 : Nat) (x10 : Int32) (x11 : Int32) (x13 : Int32) (x14 : Int32) (cd dd : Nat) (S : cS) : Prop :=
k_L_find_285 Q dp mc ms R36 R209 x0 x1 x2 x3 x4 x5 x6 x7 x8 x9 x10 x11 x13 x14 ((nI 0)) cd dd S
def k_L_find_240 (Q : cS → Prop) (dp : Nat) (mc ms : Nat) (R36 : Nat → Nat → Nat → Nat → Nat → Nat → Nat → Int32 → Int32 → Nat → Int32 → Nat → Nat → cS → Prop) (R209 : Nat → Nat → Nat → Nat → Nat → Nat → Nat → Int32 → Int32 → Nat → Int32 → Int32 → Int32 → Nat → Nat → cS → Prop) (x0 : Nat) (x1 : Nat) (x2 : Nat) (x3 : Nat) (x4 : Nat) (x5 : Nat) (x6 : Nat) (x7 : Int32) (x8 : Int32) (x9 : Nat) (x10 : Int32) (x11 : Int32) (x13 : Int32) (t0 : Int32) (cd dd : Nat) (S : cS) : Prop :=
cX S x6 14 ((nI 14)) ∧ (((¬ ((cI S x6 ((nI 14)).toNatClampNeg)) = x8 →
  k_L_find_284 Q dp mc ms R36 R209 x0 x1 x2 x3 x4 x5 x6 x7 x8 x9 x10 x11 x13 t0 cd dd S) ∧
 (((cI S x6 ((nI 14)).toNatClampNeg)) = x8 →
  (cd ≤ mc ∧ dd ≤ ms) ∧ (k_L_bound (fun r_24 S_24 => 
  cX S_24 x5 14 ((((((nI 20)) + x8)) - ((nI 1)))) ∧ (((((cI S_24 x5 ((((((nI 20)) + x8)) - ((nI 1)))).toNatClampNeg)) < r_24 →
    k_L_find_284 Q dp mc ms R36 R209 x0 x1 x2 x3 x4 x5 x6 x7 x8 x9 x10 x11 x13 t0 cd dd S_24) ∧
   (¬ ((cI S_24 x5 ((((((nI 20)) + x8)) - ((nI 1)))).toNatClampNeg)) < r_24 →
    k_L_find_285 Q dp mc ms R36 R209 x0 x1 x2 x3 x4 x5 x6 x7 x8 x9 x10 x11 x13 t0 ((nI 1)) cd dd S_24)))) dp x0 x1 x11 x13 t0 x7 x9 S))))
def k_L_find_209 (Q : cS → Prop) (dp : Nat) (mc ms : Nat) (R36 : Nat → Nat → Nat → Nat → Nat → Nat → Nat → Int32 → Int32 → Nat → Int32 → Nat → Nat → cS → Prop) (R209 : Nat → Nat → Nat → Nat → Nat → Nat → Nat → Int32 → Int32 → Nat → Int32 → Int32 → Int32 → Nat → Nat → cS → Prop) (x0 : Nat) (x1 : Nat) (x2 : Nat) (x3 : Nat) (x4 : Nat) (x5 : Nat) (x6 : Nat) (x7 : Int32) (x8 : Int32) (x9 : Nat) (x10 : Int32) (x11 : Int32) (x13 : Int32) (cd dd : Nat) (S : cS) : Prop :=
cX S x2 14 x11 ∧ (((((cI S x2 (x11).toNatClampNeg)) ≤ x13 →
  ∀ x10_11 : Int32, x10_11 = x10 + nI 1 → R36 x0 x1 x2 x3 x4 x5 x6 x7 x8 x9 x10_11 cd dd S) ∧
 (¬ ((cI S x2 (x11).toNatClampNeg)) ≤ x13 →
  cX S x2 14 x11 ∧ (((((cI S x2 (x11).toNatClampNeg)) ≤ ((x13 + ((nI 4)))) →
    cX S x2 14 x11 ∧ (k_L_find_240 Q dp mc ms R36 R209 x0 x1 x2 x3 x4 x5 x6 x7 x8 x9 x10 x11 x13 ((cI S x2 (x11).toNatClampNeg)) cd dd S)) ∧
   (¬ ((cI S x2 (x11).toNatClampNeg)) ≤ ((x13 + ((nI 4)))) →
    k_L_find_240 Q dp mc ms R36 R209 x0 x1 x2 x3 x4 x5 x6 x7 x8 x9 x10 x11 x13 ((x13 + ((nI 4)))) cd dd S))))))
def k_L_find_209L (Q : cS → Prop) (dp : Nat) (mc ms : Nat) (R36 : Nat → Nat → Nat → Nat → Nat → Nat → Nat → Int32 → Int32 → Nat → Int32 → Nat → Nat → cS → Prop) (x0 : Nat) (x1 : Nat) (x2 : Nat) (x3 : Nat) (x4 : Nat) (x5 : Nat) (x6 : Nat) (x7 : Int32) (x8 : Int32) (x9 : Nat) (x10 : Int32) (x11 : Int32) (x13 : Int32) (cd dd : Nat) (S : cS) : Prop :=
  lfp (X := Nat × Nat × Nat × Nat × Nat × Nat × Nat × Int32 × Int32 × Nat × Int32 × Int32 × Int32 × Nat × Nat × cS) (fun P y => k_L_find_209 Q dp mc ms R36 (fun b0 b1 b2 b3 b4 b5 b6 b7 b8 b9 b10 b11 b12 b13 b14 S => P (b0, b1, b2, b3, b4, b5, b6, b7, b8, b9, b10, b11, b12, b13, b14, S)) y.1 y.2.1 y.2.2.1 y.2.2.2.1 y.2.2.2.2.1 y.2.2.2.2.2.1 y.2.2.2.2.2.2.1 y.2.2.2.2.2.2.2.1 y.2.2.2.2.2.2.2.2.1 y.2.2.2.2.2.2.2.2.2.1 y.2.2.2.2.2.2.2.2.2.2.1 y.2.2.2.2.2.2.2.2.2.2.2.1 y.2.2.2.2.2.2.2.2.2.2.2.2.1 y.2.2.2.2.2.2.2.2.2.2.2.2.2.1 y.2.2.2.2.2.2.2.2.2.2.2.2.2.2.1 y.2.2.2.2.2.2.2.2.2.2.2.2.2.2.2) (x0, x1, x2, x3, x4, x5, x6, x7, x8, x9, x10, x11, x13, cd, dd, S)
def k_L_find_158 (Q : cS → Prop) (dp : Nat) (mc ms : Nat) (R36 : Nat → Nat → Nat → Nat → Nat → Nat → Nat → Int32 → Int32 → Nat → Int32 → Nat → Nat → cS → Prop) (R158 : Nat → Nat → Nat → Nat → Nat → Nat → Nat → Int32 → Int32 → Nat → Int32 → Int32 → Int32 → Nat → Nat → cS → Prop) (x0 : Nat) (x1 : Nat) (x2 : Nat) (x3 : Nat) (x4 : Nat) (x5 : Nat) (x6 : Nat) (x7 : Int32) (x8 : Int32) (x9 : Nat) (x10 : Int32) (x11 : Int32) (x12 : Int32) (cd dd : Nat) (S : cS) : Prop :=
cX S x6 14 ((nI 13)) ∧ (((((cI S x6 ((nI 13)).toNatClampNeg)) ≤ ((x12 + ((nI 1)))) →
  cX S x6 14 ((nI 13)) ∧ (cX S x4 14 ((((cI S x6 ((nI 13)).toNatClampNeg)) - ((nI 1)))) ∧ (∀ S10 : cS, S10 = cSI S x4 ((((cI S x6 ((nI 13)).toNatClampNeg)) - ((nI 1)))).toNatClampNeg ((((((nI 64)) * x7)) + x11)) → k_L_find_209L Q dp mc ms R36 x0 x1 x2 x3 x4 x5 x6 x7 x8 x9 x10 x11 (((nI 0))) cd dd S10))) ∧
 (¬ ((cI S x6 ((nI 13)).toNatClampNeg)) ≤ ((x12 + ((nI 1)))) →
  cX S x4 14 ((x12 + ((nI 1)))) ∧ (cX S x4 14 x12 ∧ (∀ S25 : cS, S25 = cSI S x4 (x12).toNatClampNeg ((cI S x4 ((x12 + ((nI 1)))).toNatClampNeg)) → ∀ x12_26 : Int32, x12_26 = x12 + nI 1 → R158 x0 x1 x2 x3 x4 x5 x6 x7 x8 x9 x10 x11 x12_26 cd dd S25)))))
def k_L_find_158L (Q : cS → Prop) (dp : Nat) (mc ms : Nat) (R36 : Nat → Nat → Nat → Nat → Nat → Nat → Nat → Int32 → Int32 → Nat → Int32 → Nat → Nat → cS → Prop) (x0 : Nat) (x1 : Nat) (x2 : Nat) (x3 : Nat) (x4 : Nat) (x5 : Nat) (x6 : Nat) (x7 : Int32) (x8 : Int32) (x9 : Nat) (x10 : Int32) (x11 : Int32) (x12 : Int32) (cd dd : Nat) (S : cS) : Prop :=
  lfp (X := Nat × Nat × Nat × Nat × Nat × Nat × Nat × Int32 × Int32 × Nat × Int32 × Int32 × Int32 × Nat × Nat × cS) (fun P y => k_L_find_158 Q dp mc ms R36 (fun b0 b1 b2 b3 b4 b5 b6 b7 b8 b9 b10 b11 b12 b13 b14 S => P (b0, b1, b2, b3, b4, b5, b6, b7, b8, b9, b10, b11, b12, b13, b14, S)) y.1 y.2.1 y.2.2.1 y.2.2.2.1 y.2.2.2.2.1 y.2.2.2.2.2.1 y.2.2.2.2.2.2.1 y.2.2.2.2.2.2.2.1 y.2.2.2.2.2.2.2.2.1 y.2.2.2.2.2.2.2.2.2.1 y.2.2.2.2.2.2.2.2.2.2.1 y.2.2.2.2.2.2.2.2.2.2.2.1 y.2.2.2.2.2.2.2.2.2.2.2.2.1 y.2.2.2.2.2.2.2.2.2.2.2.2.2.1 y.2.2.2.2.2.2.2.2.2.2.2.2.2.2.1 y.2.2.2.2.2.2.2.2.2.2.2.2.2.2.2) (x0, x1, x2, x3, x4, x5, x6, x7, x8, x9, x10, x11, x12, cd, dd, S)
def k_L_find_156 (Q : cS → Prop) (dp : Nat) (mc ms : Nat) (R36 : Nat → Nat → Nat → Nat → Nat → Nat → Nat → Int32 → Int32 → Nat → Int32 → Nat → Nat → cS → Prop) (x0 : Nat) (x1 : Nat) (x2 : Nat) (x3 : Nat) (x4 : Nat) (x5 : Nat) (x6 : Nat) (x7 : Int32) (x8 : Int32) (x9 : Nat) (x10 : Int32) (x11 : Int32) (t0 : Int32) (cd dd : Nat) (S : cS) : Prop :=
k_L_find_158L Q dp mc ms R36 x0 x1 x2 x3 x4 x5 x6 x7 x8 x9 x10 x11 t0 cd dd S
def k_L_find_141 (Q : cS → Prop) (dp : Nat) (mc ms : Nat) (R36 : Nat → Nat → Nat → Nat → Nat → Nat → Nat → Int32 → Int32 → Nat → Int32 → Nat → Nat → cS → Prop) (x0 : Nat) (x1 : Nat) (x2 : Nat) (x3 : Nat) (x4 : Nat) (x5 : Nat) (x6 : Nat) (x7 : Int32) (x8 : Int32) (x9 : Nat) (x10 : Int32) (x11 : Int32) (x12 : Int32) (t0 : Int32) (t1 : Int32) (t2 : Int32) (t3 : Nat) (cd dd : Nat) (S : cS) : Prop :=
cX S t3 14 t2 ∧ (∀ S27 : cS, S27 = cSI S t3 (t2).toNatClampNeg ((t1 + t0)) → ((¬ x12 = ((nI 8)) →
  k_L_find_156 Q dp mc ms R36 x0 x1 x2 x3 x4 x5 x6 x7 x8 x9 x10 x11 x12 cd dd S27) ∧
 (x12 = ((nI 8)) →
  k_L_find_156 Q dp mc ms R36 x0 x1 x2 x3 x4 x5 x6 x7 x8 x9 x10 x11 ((nI 0)) cd dd S27)))
def k_L_find_108 (Q : cS → Prop) (dp : Nat) (mc ms : Nat) (R36 : Nat → Nat → Nat → Nat → Nat → Nat → Nat → Int32 → Int32 → Nat → Int32 → Nat → Nat → cS → Prop) (x0 : Nat) (x1 : Nat) (x2 : Nat) (x3 : Nat) (x4 : Nat) (x5 : Nat) (x6 : Nat) (x7 : Int32) (x8 : Int32) (x9 : Nat) (x10 : Int32) (x11 : Int32) (x12 : Int32) (t0 : Int32) (t1 : Int32) (t2 : Int32) (t3 : Nat) (cd dd : Nat) (S : cS) : Prop :=
cX S t3 14 t2 ∧ (∀ S9 : cS, S9 = cSI S t3 (t2).toNatClampNeg ((t1 + t0)) → cX S9 x6 14 ((nI 13)) ∧ (((¬ x12 = ((cI S9 x6 ((nI 13)).toNatClampNeg)) →
  k_L_find_158L Q dp mc ms R36 x0 x1 x2 x3 x4 x5 x6 x7 x8 x9 x10 x11 x12 cd dd S9) ∧
 (x12 = ((cI S9 x6 ((nI 13)).toNatClampNeg)) →
  cX S9 x6 14 ((nI 13)) ∧ (cX S9 x6 14 ((nI 13)) ∧ (((((nI 8)) ≤ ((cI S9 x6 ((nI 13)).toNatClampNeg)) →
    k_L_find_141 Q dp mc ms R36 x0 x1 x2 x3 x4 x5 x6 x7 x8 x9 x10 x11 x12 ((nI 0)) ((cI S9 x6 ((nI 13)).toNatClampNeg)) ((nI 13)) x6 cd dd S9) ∧
   (¬ ((nI 8)) ≤ ((cI S9 x6 ((nI 13)).toNatClampNeg)) →
    k_L_find_141 Q dp mc ms R36 x0 x1 x2 x3 x4 x5 x6 x7 x8 x9 x10 x11 x12 ((nI 1)) ((cI S9 x6 ((nI 13)).toNatClampNeg)) ((nI 13)) x6 cd dd S9))))))))
def k_L_find_87 (Q : cS → Prop) (dp : Nat) (mc ms : Nat) (R36 : Nat → Nat → Nat → Nat → Nat → Nat → Nat → Int32 → Int32 → Nat → Int32 → Nat → Nat → cS → Prop) (x0 : Nat) (x1 : Nat) (x2 : Nat) (x3 : Nat) (x4 : Nat) (x5 : Nat) (x6 : Nat) (x7 : Int32) (x8 : Int32) (x9 : Nat) (x10 : Int32) (x11 : Int32) (x12 : Int32) (cd dd : Nat) (S : cS) : Prop :=
cX S x6 14 ((nI 16)) ∧ (cX S x6 14 ((nI 13)) ∧ (((((cI S x6 ((nI 13)).toNatClampNeg)) ≤ x12 →
  k_L_find_108 Q dp mc ms R36 x0 x1 x2 x3 x4 x5 x6 x7 x8 x9 x10 x11 x12 ((nI 0)) ((cI S x6 ((nI 16)).toNatClampNeg)) ((nI 16)) x6 cd dd S) ∧
 (¬ ((cI S x6 ((nI 13)).toNatClampNeg)) ≤ x12 →
  k_L_find_108 Q dp mc ms R36 x0 x1 x2 x3 x4 x5 x6 x7 x8 x9 x10 x11 x12 ((nI 1)) ((cI S x6 ((nI 16)).toNatClampNeg)) ((nI 16)) x6 cd dd S))))
def k_L_find_55 (Q : cS → Prop) (dp : Nat) (mc ms : Nat) (R36 : Nat → Nat → Nat → Nat → Nat → Nat → Nat → Int32 → Int32 → Nat → Int32 → Nat → Nat → cS → Prop) (R55 : Nat → Nat → Nat → Nat → Nat → Nat → Nat → Int32 → Int32 → Nat → Int32 → Int32 → Int32 → Nat → Nat → cS → Prop) (x0 : Nat) (x1 : Nat) (x2 : Nat) (x3 : Nat) (x4 : Nat) (x5 : Nat) (x6 : Nat) (x7 : Int32) (x8 : Int32) (x9 : Nat) (x10 : Int32) (x11 : Int32) (x12 : Int32) (cd dd : Nat) (S : cS) : Prop :=
cX S x6 14 ((nI 13)) ∧ (((((cI S x6 ((nI 13)).toNatClampNeg)) ≤ x12 →
  k_L_find_87 Q dp mc ms R36 x0 x1 x2 x3 x4 x5 x6 x7 x8 x9 x10 x11 x12 cd dd S) ∧
 (¬ ((cI S x6 ((nI 13)).toNatClampNeg)) ≤ x12 →
  cX S x4 14 x12 ∧ (((((cI S x4 (x12).toNatClampNeg)) = ((((((nI 64)) * x7)) + x11)) →
    k_L_find_87 Q dp mc ms R36 x0 x1 x2 x3 x4 x5 x6 x7 x8 x9 x10 x11 x12 cd dd S) ∧
   (¬ ((cI S x4 (x12).toNatClampNeg)) = ((((((nI 64)) * x7)) + x11)) →
    ∀ x12_28 : Int32, x12_28 = x12 + nI 1 → R55 x0 x1 x2 x3 x4 x5 x6 x7 x8 x9 x10 x11 x12_28 cd dd S))))))
def k_L_find_55L (Q : cS → Prop) (dp : Nat) (mc ms : Nat) (R36 : Nat → Nat → Nat → Nat → Nat → Nat → Nat → Int32 → Int32 → Nat → Int32 → Nat → Nat → cS → Prop) (x0 : Nat) (x1 : Nat) (x2 : Nat) (x3 : Nat) (x4 : Nat) (x5 : Nat) (x6 : Nat) (x7 : Int32) (x8 : Int32) (x9 : Nat) (x10 : Int32) (x11 : Int32) (x12 : Int32) (cd dd : Nat) (S : cS) : Prop :=
  lfp (X := Nat × Nat × Nat × Nat × Nat × Nat × Nat × Int32 × Int32 × Nat × Int32 × Int32 × Int32 × Nat × Nat × cS) (fun P y => k_L_find_55 Q dp mc ms R36 (fun b0 b1 b2 b3 b4 b5 b6 b7 b8 b9 b10 b11 b12 b13 b14 S => P (b0, b1, b2, b3, b4, b5, b6, b7, b8, b9, b10, b11, b12, b13, b14, S)) y.1 y.2.1 y.2.2.1 y.2.2.2.1 y.2.2.2.2.1 y.2.2.2.2.2.1 y.2.2.2.2.2.2.1 y.2.2.2.2.2.2.2.1 y.2.2.2.2.2.2.2.2.1 y.2.2.2.2.2.2.2.2.2.1 y.2.2.2.2.2.2.2.2.2.2.1 y.2.2.2.2.2.2.2.2.2.2.2.1 y.2.2.2.2.2.2.2.2.2.2.2.2.1 y.2.2.2.2.2.2.2.2.2.2.2.2.2.1 y.2.2.2.2.2.2.2.2.2.2.2.2.2.2.1 y.2.2.2.2.2.2.2.2.2.2.2.2.2.2.2) (x0, x1, x2, x3, x4, x5, x6, x7, x8, x9, x10, x11, x12, cd, dd, S)
def k_L_find_36 (Q : cS → Prop) (dp : Nat) (mc ms : Nat) (R36 : Nat → Nat → Nat → Nat → Nat → Nat → Nat → Int32 → Int32 → Nat → Int32 → Nat → Nat → cS → Prop) (x0 : Nat) (x1 : Nat) (x2 : Nat) (x3 : Nat) (x4 : Nat) (x5 : Nat) (x6 : Nat) (x7 : Int32) (x8 : Int32) (x9 : Nat) (x10 : Int32) (cd dd : Nat) (S : cS) : Prop :=
cX S x3 14 ((nI 1)) ∧ (((((cI S x3 ((nI 1)).toNatClampNeg)) ≤ x10 →
  (cd ≤ mc ∧ dd ≤ ms) ∧ (Q S)) ∧
 (¬ ((cI S x3 ((nI 1)).toNatClampNeg)) ≤ x10 →
  cX S x3 14 ((((nI 2)) + x10)) ∧ (∀ x11_8 : Int32, x11_8 = (cI S x3 ((((nI 2)) + x10)).toNatClampNeg) → k_L_find_55L Q dp mc ms R36 x0 x1 x2 x3 x4 x5 x6 x7 x8 x9 x10 x11_8 (((nI 0))) cd dd S))))
def k_L_find_36L (Q : cS → Prop) (dp : Nat) (mc ms : Nat)  (x0 : Nat) (x1 : Nat) (x2 : Nat) (x3 : Nat) (x4 : Nat) (x5 : Nat) (x6 : Nat) (x7 : Int32) (x8 : Int32) (x9 : Nat) (x10 : Int32) (cd dd : Nat) (S : cS) : Prop :=
  lfp (X := Nat × Nat × Nat × Nat × Nat × Nat × Nat × Int32 × Int32 × Nat × Int32 × Nat × Nat × cS) (fun P y => k_L_find_36 Q dp mc ms  (fun b0 b1 b2 b3 b4 b5 b6 b7 b8 b9 b10 b11 b12 S => P (b0, b1, b2, b3, b4, b5, b6, b7, b8, b9, b10, b11, b12, S)) y.1 y.2.1 y.2.2.1 y.2.2.2.1 y.2.2.2.2.1 y.2.2.2.2.2.1 y.2.2.2.2.2.2.1 y.2.2.2.2.2.2.2.1 y.2.2.2.2.2.2.2.2.1 y.2.2.2.2.2.2.2.2.2.1 y.2.2.2.2.2.2.2.2.2.2.1 y.2.2.2.2.2.2.2.2.2.2.2.1 y.2.2.2.2.2.2.2.2.2.2.2.2.1 y.2.2.2.2.2.2.2.2.2.2.2.2.2) (x0, x1, x2, x3, x4, x5, x6, x7, x8, x9, x10, cd, dd, S)
def k_L_find (Q : cS → Prop) (dp : Nat) (mc ms : Nat) (x0 : Nat) (x1 : Nat) (x2 : Nat) (x3 : Nat) (x4 : Nat) (x5 : Nat) (x6 : Nat) (x7 : Int32) (x8 : Int32) (S : cS) : Prop :=
(∃ n1 : Nat, (nI 9) = nI n1 ∧ n1 < 2 ^ 20 ∧ 0 + 1 ≤ mc ∧ 0 + n1 ≤ ms ∧ (∀ q2 : Nat, q2 ∉ cL S → ∀ S3 : cS, S3 = cNewA S q2 14 n1 → (0 + 1 ≤ mc ∧ 0 + n1 ≤ ms) ∧ (k_L_gains (fun S_4 => 
cX S_4 x6 14 ((nI 14)) ∧ (∀ S5 : cS, S5 = cSI S_4 x6 ((nI 14)).toNatClampNeg ((nI 0)) → cX S5 x6 14 ((nI 15)) ∧ (∀ S6 : cS, S6 = cSI S5 x6 ((nI 15)).toNatClampNeg ((nI 0)) → cX S6 x6 14 ((nI 16)) ∧ (∀ S7 : cS, S7 = cSI S6 x6 ((nI 16)).toNatClampNeg ((nI 0)) → k_L_find_36L Q dp mc ms  x0 x1 x2 x3 x4 x5 x6 x7 x8 q2 (((nI 0))) (0 + 1) (0 + n1) S7)))) dp x0 x1 x2 x3 q2 S3)))
def k_L_writes_73 (Q : Int32 → cS → Prop) (dp : Nat)  (x0 : Nat) (t0 : Int32) (t1 : Int32) (t2 : Int32) (t3 : Nat) (S : cS) : Prop :=
cX S t3 14 t2 ∧ (∀ S1 : cS, S1 = cSI S t3 (t2).toNatClampNeg ((t1 - t0)) → cX S1 x0 14 ((nI 4)) ∧ (cX S1 x0 14 ((nI 4)) ∧ (∀ S2 : cS, S2 = cSI S1 x0 ((nI 4)).toNatClampNeg ((((cI S1 x0 ((nI 4)).toNatClampNeg)) + ((nI 1)))) → Q ((bI true)) S2)))
def k_L_writes (Q : Int32 → cS → Prop) (dp : Nat) (x0 : Nat) (x1 : Nat) (x2 : Nat) (x3 : Nat) (S : cS) : Prop :=
cX S x0 14 ((nI 5)) ∧ (((¬ ((cI S x0 ((nI 5)).toNatClampNeg)) = 0 →
  cX S x0 14 ((nI 5)) ∧ (cX S x0 14 ((nI 5)) ∧ (((((cI S x0 ((nI 5)).toNatClampNeg)) ≤ 0 →
    k_L_writes_73 Q dp  x0 ((nI 0)) ((cI S x0 ((nI 5)).toNatClampNeg)) ((nI 5)) x0 S) ∧
   (¬ ((cI S x0 ((nI 5)).toNatClampNeg)) ≤ 0 →
    k_L_writes_73 Q dp  x0 ((nI 1)) ((cI S x0 ((nI 5)).toNatClampNeg)) ((nI 5)) x0 S))))) ∧
 (((cI S x0 ((nI 5)).toNatClampNeg)) = 0 →
  cX S x0 14 ((nI 6)) ∧ (∀ S3 : cS, S3 = cSI S x0 ((nI 6)).toNatClampNeg ((nI 1)) → cX S3 x0 14 ((nI 1)) ∧ (∀ S4 : cS, S4 = cSI S3 x0 ((nI 1)).toNatClampNeg ((nI 0)) → cX S4 x0 14 ((nI 3)) ∧ (∀ S5 : cS, S5 = cSI S4 x0 ((nI 3)).toNatClampNeg ((nI 0)) → cX S5 x0 14 ((nI 9)) ∧ (∀ S6 : cS, S6 = cSI S5 x0 ((nI 9)).toNatClampNeg ((nI 0)) → cX S6 x0 14 ((nI 13)) ∧ (∀ S7 : cS, S7 = cSI S6 x0 ((nI 13)).toNatClampNeg ((nI 0)) → cX S7 x0 14 ((nI 14)) ∧ (∀ S8 : cS, S8 = cSI S7 x0 ((nI 14)).toNatClampNeg ((nI 0)) → cX S8 x0 14 ((nI 15)) ∧ (∀ S9 : cS, S9 = cSI S8 x0 ((nI 15)).toNatClampNeg ((nI 0)) → cX S9 x0 14 ((nI 16)) ∧ (∀ S10 : cS, S10 = cSI S9 x0 ((nI 16)).toNatClampNeg ((nI 0)) → cX S10 x1 14 ((nI 0)) ∧ (∀ S11 : cS, S11 = cSI S10 x1 ((nI 0)).toNatClampNeg ((nI 0)) → cX S11 x2 14 ((nI 0)) ∧ (∀ S12 : cS, S12 = cSI S11 x2 ((nI 0)).toNatClampNeg ((nI 0)) → cX S12 x3 14 ((nI 0)) ∧ (∀ S13 : cS, S13 = cSI S12 x3 ((nI 0)).toNatClampNeg ((nI 0)) → Q ((bI false)) S13))))))))))))))
def k_L_flushed_61 (Q : Int32 → cS → Prop) (dp : Nat) (R61 : Nat → Nat → Nat → Nat → Nat → Nat → Nat → Nat → Int32 → Int32 → cS → Prop) (x0 : Nat) (x1 : Nat) (x2 : Nat) (x3 : Nat) (x4 : Nat) (x5 : Nat) (x6 : Nat) (x10 : Nat) (x11 : Int32) (x12 : Int32) (S : cS) : Prop :=
((x11 ≤ x12 →
  cX S x10 14 ((nI 2)) ∧ (cX S x3 14 ((cI S x10 ((nI 2)).toNatClampNeg)) ∧ (∀ S3 : cS, S3 = cSI S x3 ((cI S x10 ((nI 2)).toNatClampNeg)).toNatClampNeg x11 → cX S3 x10 14 ((nI 2)) ∧ (cX S3 x4 14 ((cI S3 x10 ((nI 2)).toNatClampNeg)) ∧ (∀ S4 : cS, S4 = cSI S3 x4 ((cI S3 x10 ((nI 2)).toNatClampNeg)).toNatClampNeg ((((((nI 1)) <<< (x11 &&& 31))) - ((nI 1)))) → cX S4 x10 14 ((nI 2)) ∧ (cX S4 x10 14 ((nI 2)) ∧ (cX S4 x4 14 ((cI S4 x10 ((nI 2)).toNatClampNeg)) ∧ (cX S4 x5 14 ((cI S4 x10 ((nI 2)).toNatClampNeg)) ∧ (∀ S5 : cS, S5 = cSI S4 x5 ((cI S4 x10 ((nI 2)).toNatClampNeg)).toNatClampNeg ((cI S4 x4 ((cI S4 x10 ((nI 2)).toNatClampNeg)).toNatClampNeg)) → cX S5 x10 14 ((nI 3)) ∧ (cX S5 x10 14 ((nI 2)) ∧ (cX S5 x6 14 ((cI S5 x10 ((nI 3)).toNatClampNeg)) ∧ (∀ S6 : cS, S6 = cSI S5 x6 ((cI S5 x10 ((nI 3)).toNatClampNeg)).toNatClampNeg ((cI S5 x10 ((nI 2)).toNatClampNeg)) → cX S6 x10 14 ((nI 3)) ∧ (cX S6 x10 14 ((nI 3)) ∧ (∀ S7 : cS, S7 = cSI S6 x10 ((nI 3)).toNatClampNeg ((((cI S6 x10 ((nI 3)).toNatClampNeg)) + ((nI 1)))) → cX S7 x10 14 ((nI 2)) ∧ (cX S7 x10 14 ((nI 2)) ∧ (∀ S8 : cS, S8 = cSI S7 x10 ((nI 2)).toNatClampNeg ((((cI S7 x10 ((nI 2)).toNatClampNeg)) + ((nI 1)))) → cX S8 x10 14 ((nI 1)) ∧ (∀ S9 : cS, S9 = cSI S8 x10 ((nI 1)).toNatClampNeg ((nI 0)) → cX S9 x10 14 ((nI 2)) ∧ (Q ((((cI S9 x10 ((nI 2)).toNatClampNeg)) - ((nI 1)))) S9)))))))))))))))))) ∧
 (¬ x11 ≤ x12 →
  cX S x10 14 ((nI 0)) ∧ (cX S x1 15 x12 ∧ (cX S x0 15 ((cI S x10 ((nI 0)).toNatClampNeg)) ∧ (∀ S10 : cS, S10 = cSJ S x0 ((cI S x10 ((nI 0)).toNatClampNeg)).toNatClampNeg (cJ S x1 (x12).toNatClampNeg) → cX S10 x10 14 ((nI 2)) ∧ (cX S10 x2 15 ((cI S10 x10 ((nI 2)).toNatClampNeg)) ∧ (cX S10 x10 14 ((nI 0)) ∧ (cX S10 x2 15 ((cI S10 x10 ((nI 2)).toNatClampNeg)) ∧ (∀ S11 : cS, S11 = cSJ S10 x2 ((cI S10 x10 ((nI 2)).toNatClampNeg)).toNatClampNeg ((cJ S10 x2 ((cI S10 x10 ((nI 2)).toNatClampNeg)).toNatClampNeg) ||| (jSl (((cI S10 x10 ((nI 0)).toNatClampNeg)).toInt64) ((((nI 6)) * x12)))) → cX S11 x10 14 ((nI 0)) ∧ (cX S11 x10 14 ((nI 0)) ∧ (∀ S12 : cS, S12 = cSI S11 x10 ((nI 0)).toNatClampNeg ((((cI S11 x10 ((nI 0)).toNatClampNeg)) + ((nI 1)))) → ∀ x12_13 : Int32, x12_13 = x12 + nI 1 → R61 x0 x1 x2 x3 x4 x5 x6 x10 x11 x12_13 S12)))))))))))
def k_L_flushed_61L (Q : Int32 → cS → Prop) (dp : Nat)  (x0 : Nat) (x1 : Nat) (x2 : Nat) (x3 : Nat) (x4 : Nat) (x5 : Nat) (x6 : Nat) (x10 : Nat) (x11 : Int32) (x12 : Int32) (S : cS) : Prop :=
  lfp (X := Nat × Nat × Nat × Nat × Nat × Nat × Nat × Nat × Int32 × Int32 × cS) (fun P y => k_L_flushed_61 Q dp  (fun b0 b1 b2 b3 b4 b5 b6 b7 b8 b9 S => P (b0, b1, b2, b3, b4, b5, b6, b7, b8, b9, S)) y.1 y.2.1 y.2.2.1 y.2.2.2.1 y.2.2.2.2.1 y.2.2.2.2.2.1 y.2.2.2.2.2.2.1 y.2.2.2.2.2.2.2.1 y.2.2.2.2.2.2.2.2.1 y.2.2.2.2.2.2.2.2.2.1 y.2.2.2.2.2.2.2.2.2.2) (x0, x1, x2, x3, x4, x5, x6, x10, x11, x12, S)
def k_L_flushed_44 (Q : Int32 → cS → Prop) (dp : Nat)  (x0 : Nat) (x1 : Nat) (x2 : Nat) (x3 : Nat) (x4 : Nat) (x5 : Nat) (x6 : Nat) (x10 : Nat) (x11 : Int32) (S : cS) : Prop :=
((¬ x11 = 0 →
  cX S x10 14 ((nI 2)) ∧ (cX S x2 15 ((cI S x10 ((nI 2)).toNatClampNeg)) ∧ (∀ S2 : cS, S2 = cSJ S x2 ((cI S x10 ((nI 2)).toNatClampNeg)).toNatClampNeg 0 → k_L_flushed_61L Q dp  x0 x1 x2 x3 x4 x5 x6 x10 x11 (((nI 0))) S2))) ∧
 (x11 = 0 →
  Q (((-1))) S))
def k_L_flushed_9 (Q : Int32 → cS → Prop) (dp : Nat) (R9 : Nat → Nat → Nat → Nat → Nat → Nat → Nat → Nat → Nat → Nat → Nat → Int32 → Int32 → cS → Prop) (x0 : Nat) (x1 : Nat) (x2 : Nat) (x3 : Nat) (x4 : Nat) (x5 : Nat) (x6 : Nat) (x7 : Nat) (x8 : Nat) (x9 : Nat) (x10 : Nat) (x11 : Int32) (x12 : Int32) (S : cS) : Prop :=
((x11 ≤ 0 →
  k_L_flushed_44 Q dp  x0 x1 x2 x3 x4 x5 x6 x10 x11 S) ∧
 (¬ x11 ≤ 0 →
  ((x11 < x12 →
    k_L_flushed_44 Q dp  x0 x1 x2 x3 x4 x5 x6 x10 x11 S) ∧
   (¬ x11 < x12 →
    k_L_writes (fun r_14 S_14 => 
    ((¬ r_14 = 0 →
      ∀ x12_15 : Int32, x12_15 = x12 + nI 1 → R9 x0 x1 x2 x3 x4 x5 x6 x7 x8 x9 x10 x11 x12_15 S_14) ∧
     (r_14 = 0 →
      Q (((-2))) S_14))) dp x10 x7 x8 x9 S))))
def k_L_flushed_9L (Q : Int32 → cS → Prop) (dp : Nat)  (x0 : Nat) (x1 : Nat) (x2 : Nat) (x3 : Nat) (x4 : Nat) (x5 : Nat) (x6 : Nat) (x7 : Nat) (x8 : Nat) (x9 : Nat) (x10 : Nat) (x11 : Int32) (x12 : Int32) (S : cS) : Prop :=
  lfp (X := Nat × Nat × Nat × Nat × Nat × Nat × Nat × Nat × Nat × Nat × Nat × Int32 × Int32 × cS) (fun P y => k_L_flushed_9 Q dp  (fun b0 b1 b2 b3 b4 b5 b6 b7 b8 b9 b10 b11 b12 S => P (b0, b1, b2, b3, b4, b5, b6, b7, b8, b9, b10, b11, b12, S)) y.1 y.2.1 y.2.2.1 y.2.2.2.1 y.2.2.2.2.1 y.2.2.2.2.2.1 y.2.2.2.2.2.2.1 y.2.2.2.2.2.2.2.1 y.2.2.2.2.2.2.2.2.1 y.2.2.2.2.2.2.2.2.2.1 y.2.2.2.2.2.2.2.2.2.2.1 y.2.2.2.2.2.2.2.2.2.2.2.1 y.2.2.2.2.2.2.2.2.2.2.2.2.1 y.2.2.2.2.2.2.2.2.2.2.2.2.2) (x0, x1, x2, x3, x4, x5, x6, x7, x8, x9, x10, x11, x12, S)
def k_L_flushed (Q : Int32 → cS → Prop) (dp : Nat) (x0 : Nat) (x1 : Nat) (x2 : Nat) (x3 : Nat) (x4 : Nat) (x5 : Nat) (x6 : Nat) (x7 : Nat) (x8 : Nat) (x9 : Nat) (x10 : Nat) (S : cS) : Prop :=
cX S x10 14 ((nI 1)) ∧ (∀ x11_1 : Int32, x11_1 = (cI S x10 ((nI 1)).toNatClampNeg) → k_L_flushed_9L Q dp  x0 x1 x2 x3 x4 x5 x6 x7 x8 x9 x10 x11_1 (((nI 0))) S)
def k_L_tier (Q : Int32 → cS → Prop) (dp : Nat) (x0 : Int32) (S : cS) : Prop :=
((((nI 3)) ≤ x0 →
  ((((nI 9)) ≤ x0 →
    Q ((nI 2)) S) ∧
   (¬ ((nI 9)) ≤ x0 →
    Q ((nI 1)) S))) ∧
 (¬ ((nI 3)) ≤ x0 →
  Q ((nI 0)) S))
def k_L_due_66 (Q : Int32 → cS → Prop) (dp : Nat) (R9 : Nat → Nat → Int32 → Int32 → cS → Prop) (x0 : Nat) (x1 : Nat) (x4 : Int32) (t0 : Int32) (S : cS) : Prop :=
∀ x4_5 : Int32, x4_5 = x4 + (-1) → R9 x0 x1 t0 x4_5 S
def k_L_due_65 (Q : Int32 → cS → Prop) (dp : Nat) (R9 : Nat → Nat → Int32 → Int32 → cS → Prop) (x0 : Nat) (x1 : Nat) (x3 : Int32) (x4 : Int32) (S : cS) : Prop :=
k_L_due_66 Q dp R9 x0 x1 x4 x3 S
def k_L_due_9 (Q : Int32 → cS → Prop) (dp : Nat) (R9 : Nat → Nat → Int32 → Int32 → cS → Prop) (x0 : Nat) (x1 : Nat) (x3 : Int32) (x4 : Int32) (S : cS) : Prop :=
((x4 < 0 →
  Q x3 S) ∧
 (¬ x4 < 0 →
  cX S x1 14 x4 ∧ (cX S x0 14 ((cI S x1 (x4).toNatClampNeg)) ∧ (k_L_tier (fun r_3 S_3 => 
  cX S_3 x1 14 ((x4 + ((nI 1)))) ∧ (cX S_3 x0 14 ((cI S_3 x1 ((x4 + ((nI 1)))).toNatClampNeg)) ∧ (k_L_tier (fun r_4 S_4 => 
  ((¬ r_3 = r_4 →
    k_L_due_65 Q dp R9 x0 x1 x3 x4 S_4) ∧
   (r_3 = r_4 →
    cX S_4 x1 14 x4 ∧ (cX S_4 x0 14 ((cI S_4 x1 (x4).toNatClampNeg)) ∧ (k_L_tier (fun r_6 S_6 => 
    cX S_6 x1 14 ((x4 + ((nI 2)))) ∧ (cX S_6 x0 14 ((cI S_6 x1 ((x4 + ((nI 2)))).toNatClampNeg)) ∧ (k_L_tier (fun r_7 S_7 => 
    ((¬ r_6 = r_7 →
      k_L_due_65 Q dp R9 x0 x1 x3 x4 S_7) ∧
     (r_6 = r_7 →
      k_L_due_66 Q dp R9 x0 x1 x4 x4 S_7))) dp ((cI S_6 x0 ((cI S_6 x1 ((x4 + ((nI 2)))).toNatClampNeg)).toNatClampNeg)) S_6))) dp ((cI S_4 x0 ((cI S_4 x1 (x4).toNatClampNeg)).toNatClampNeg)) S_4))))) dp ((cI S_3 x0 ((cI S_3 x1 ((x4 + ((nI 1)))).toNatClampNeg)).toNatClampNeg)) S_3))) dp ((cI S x0 ((cI S x1 (x4).toNatClampNeg)).toNatClampNeg)) S))))
def k_L_due_9L (Q : Int32 → cS → Prop) (dp : Nat)  (x0 : Nat) (x1 : Nat) (x3 : Int32) (x4 : Int32) (S : cS) : Prop :=
  lfp (X := Nat × Nat × Int32 × Int32 × cS) (fun P y => k_L_due_9 Q dp  (fun b0 b1 b2 b3 S => P (b0, b1, b2, b3, S)) y.1 y.2.1 y.2.2.1 y.2.2.2.1 y.2.2.2.2) (x0, x1, x3, x4, S)
def k_L_due (Q : Int32 → cS → Prop) (dp : Nat) (x0 : Nat) (x1 : Nat) (x2 : Nat) (S : cS) : Prop :=
∀ x3_1 : Int32, x3_1 = ((-1)) → cX S x2 14 ((nI 3)) ∧ (∀ x4_2 : Int32, x4_2 = (((cI S x2 ((nI 3)).toNatClampNeg)) - ((nI 3))) → k_L_due_9L Q dp  x0 x1 x3_1 x4_2 S)
def k_L_names_36 (Q : cS → Prop) (dp : Nat) (R36 : Nat → Nat → Int32 → cS → Prop) (x0 : Nat) (x2 : Nat) (x4 : Int32) (S : cS) : Prop :=
((((nI 30)) ≤ x4 →
  Q S) ∧
 (¬ ((nI 30)) ≤ x4 →
  cX S x2 14 x4 ∧ (cX S x0 14 ((((nI 32)) + x4)) ∧ (∀ S2 : cS, S2 = cSI S x0 ((((nI 32)) + x4)).toNatClampNeg ((cI S x2 (x4).toNatClampNeg)) → ∀ x4_3 : Int32, x4_3 = x4 + nI 1 → R36 x0 x2 x4_3 S2))))
def k_L_names_36L (Q : cS → Prop) (dp : Nat)  (x0 : Nat) (x2 : Nat) (x4 : Int32) (S : cS) : Prop :=
  lfp (X := Nat × Nat × Int32 × cS) (fun P y => k_L_names_36 Q dp  (fun b0 b1 b2 S => P (b0, b1, b2, S)) y.1 y.2.1 y.2.2.1 y.2.2.2) (x0, x2, x4, S)
def k_L_names_9 (Q : cS → Prop) (dp : Nat) (R9 : Nat → Nat → Nat → Nat → Int32 → cS → Prop) (x0 : Nat) (x1 : Nat) (x2 : Nat) (x3 : Nat) (x4 : Int32) (S : cS) : Prop :=
cX S x3 14 ((nI 3)) ∧ (((((cI S x3 ((nI 3)).toNatClampNeg)) ≤ x4 →
  k_L_names_36L Q dp  x0 x2 (((nI 0))) S) ∧
 (¬ ((cI S x3 ((nI 3)).toNatClampNeg)) ≤ x4 →
  cX S x1 14 x4 ∧ (cX S x0 14 ((((nI 2)) + x4)) ∧ (∀ S4 : cS, S4 = cSI S x0 ((((nI 2)) + x4)).toNatClampNeg ((cI S x1 (x4).toNatClampNeg)) → ∀ x4_5 : Int32, x4_5 = x4 + nI 1 → R9 x0 x1 x2 x3 x4_5 S4)))))
def k_L_names_9L (Q : cS → Prop) (dp : Nat)  (x0 : Nat) (x1 : Nat) (x2 : Nat) (x3 : Nat) (x4 : Int32) (S : cS) : Prop :=
  lfp (X := Nat × Nat × Nat × Nat × Int32 × cS) (fun P y => k_L_names_9 Q dp  (fun b0 b1 b2 b3 b4 S => P (b0, b1, b2, b3, b4, S)) y.1 y.2.1 y.2.2.1 y.2.2.2.1 y.2.2.2.2.1 y.2.2.2.2.2) (x0, x1, x2, x3, x4, S)
def k_L_names (Q : cS → Prop) (dp : Nat) (x0 : Nat) (x1 : Nat) (x2 : Nat) (x3 : Nat) (S : cS) : Prop :=
cX S x3 14 ((nI 3)) ∧ (cX S x0 14 ((nI 1)) ∧ (∀ S1 : cS, S1 = cSI S x0 ((nI 1)).toNatClampNeg ((cI S x3 ((nI 3)).toNatClampNeg)) → k_L_names_9L Q dp  x0 x1 x2 x3 (((nI 0))) S1))
def k_L_isIn_35 (Q : Int32 → cS → Prop) (dp : Nat) (R4 : Nat → Int32 → Int32 → Int32 → cS → Prop) (x0 : Nat) (x1 : Int32) (x3 : Int32) (t0 : Int32) (S : cS) : Prop :=
∀ x3_1 : Int32, x3_1 = x3 + nI 1 → R4 x0 x1 t0 x3_1 S
def k_L_isIn_4 (Q : Int32 → cS → Prop) (dp : Nat) (R4 : Nat → Int32 → Int32 → Int32 → cS → Prop) (x0 : Nat) (x1 : Int32) (x2 : Int32) (x3 : Int32) (S : cS) : Prop :=
cX S x0 14 ((nI 0)) ∧ (((((cI S x0 ((nI 0)).toNatClampNeg)) ≤ 0 →
  isZ x2 ∧ (Q x2 S)) ∧
 (¬ ((cI S x0 ((nI 0)).toNatClampNeg)) ≤ 0 →
  cX S x0 14 ((nI 1)) ∧ (((((cI S x0 ((nI 1)).toNatClampNeg)) ≤ x3 →
    isZ x2 ∧ (Q x2 S)) ∧
   (¬ ((cI S x0 ((nI 1)).toNatClampNeg)) ≤ x3 →
    ((¬ x2 = 0 →
      k_L_isIn_35 Q dp R4 x0 x1 x3 ((nI 1)) S) ∧
     (x2 = 0 →
      cX S x0 14 ((((nI 2)) + x3)) ∧ (((¬ ((cI S x0 ((((nI 2)) + x3)).toNatClampNeg)) = x1 →
        k_L_isIn_35 Q dp R4 x0 x1 x3 ((nI 0)) S) ∧
       (((cI S x0 ((((nI 2)) + x3)).toNatClampNeg)) = x1 →
        k_L_isIn_35 Q dp R4 x0 x1 x3 ((nI 1)) S)))))))))))
def k_L_isIn_4L (Q : Int32 → cS → Prop) (dp : Nat)  (x0 : Nat) (x1 : Int32) (x2 : Int32) (x3 : Int32) (S : cS) : Prop :=
  lfp (X := Nat × Int32 × Int32 × Int32 × cS) (fun P y => k_L_isIn_4 Q dp  (fun b0 b1 b2 b3 S => P (b0, b1, b2, b3, S)) y.1 y.2.1 y.2.2.1 y.2.2.2.1 y.2.2.2.2) (x0, x1, x2, x3, S)
def k_L_isIn (Q : Int32 → cS → Prop) (dp : Nat) (x0 : Nat) (x1 : Int32) (S : cS) : Prop :=
k_L_isIn_4L Q dp  x0 x1 (((nI 0))) (((nI 0))) S
def k_L_files_248 (Q : Int32 → cS → Prop) (dp : Nat) (R51 : Nat → Nat → Nat → Nat → Nat → Nat → Nat → Int32 → Int32 → cS → Prop) (x0 : Nat) (x1 : Nat) (x2 : Nat) (x3 : Nat) (x4 : Nat) (x5 : Nat) (x6 : Nat) (x8 : Int32) (t0 : Int32) (t1 : Int32) (t2 : Int32) (S : cS) : Prop :=
∀ x7_6 : Int32, x7_6 = (t2 + ((t1 + t0))) → ∀ x8_7 : Int32, x8_7 = x8 + nI 1 → R51 x0 x1 x2 x3 x4 x5 x6 x7_6 x8_7 S
def k_L_files_247 (Q : Int32 → cS → Prop) (dp : Nat) (R51 : Nat → Nat → Nat → Nat → Nat → Nat → Nat → Int32 → Int32 → cS → Prop) (x0 : Nat) (x1 : Nat) (x2 : Nat) (x3 : Nat) (x4 : Nat) (x5 : Nat) (x6 : Nat) (x8 : Int32) (t0 : Int32) (t1 : Int32) (S : cS) : Prop :=
k_L_files_248 Q dp R51 x0 x1 x2 x3 x4 x5 x6 x8 ((nI 0)) t0 t1 S
def k_L_files_230 (Q : Int32 → cS → Prop) (dp : Nat) (R51 : Nat → Nat → Nat → Nat → Nat → Nat → Nat → Int32 → Int32 → cS → Prop) (x0 : Nat) (x1 : Nat) (x2 : Nat) (x3 : Nat) (x4 : Nat) (x5 : Nat) (x6 : Nat) (x8 : Int32) (x11 : Int32) (x12 : Int32) (t0 : Int32) (t1 : Int32) (t2 : Int32) (S : cS) : Prop :=
((x12 = 0 →
  k_L_files_247 Q dp R51 x0 x1 x2 x3 x4 x5 x6 x8 ((t1 + t0)) t2 S) ∧
 (¬ x12 = 0 →
  ((x12 = x11 →
    k_L_files_247 Q dp R51 x0 x1 x2 x3 x4 x5 x6 x8 ((t1 + t0)) t2 S) ∧
   (¬ x12 = x11 →
    k_L_files_248 Q dp R51 x0 x1 x2 x3 x4 x5 x6 x8 ((nI 1)) ((t1 + t0)) t2 S))))
def k_L_files_220 (Q : Int32 → cS → Prop) (dp : Nat) (R51 : Nat → Nat → Nat → Nat → Nat → Nat → Nat → Int32 → Int32 → cS → Prop) (x0 : Nat) (x1 : Nat) (x2 : Nat) (x3 : Nat) (x4 : Nat) (x5 : Nat) (x6 : Nat) (x8 : Int32) (x11 : Int32) (x12 : Int32) (t0 : Int32) (t1 : Int32) (S : cS) : Prop :=
((x11 = 0 →
  k_L_files_230 Q dp R51 x0 x1 x2 x3 x4 x5 x6 x8 x11 x12 ((nI 0)) t0 t1 S) ∧
 (¬ x11 = 0 →
  k_L_files_230 Q dp R51 x0 x1 x2 x3 x4 x5 x6 x8 x11 x12 ((nI 1)) t0 t1 S))
def k_L_files_206 (Q : Int32 → cS → Prop) (dp : Nat) (R51 : Nat → Nat → Nat → Nat → Nat → Nat → Nat → Int32 → Int32 → cS → Prop) (x0 : Nat) (x1 : Nat) (x2 : Nat) (x3 : Nat) (x4 : Nat) (x5 : Nat) (x6 : Nat) (x7 : Int32) (x8 : Int32) (x9 : Int32) (x11 : Int32) (t0 : Int32) (S : cS) : Prop :=
((x9 = 0 →
  k_L_files_220 Q dp R51 x0 x1 x2 x3 x4 x5 x6 x8 x11 t0 ((nI 0)) x7 S) ∧
 (¬ x9 = 0 →
  k_L_files_220 Q dp R51 x0 x1 x2 x3 x4 x5 x6 x8 x11 t0 ((nI 1)) x7 S))
def k_L_files_179 (Q : Int32 → cS → Prop) (dp : Nat) (R51 : Nat → Nat → Nat → Nat → Nat → Nat → Nat → Int32 → Int32 → cS → Prop) (x0 : Nat) (x1 : Nat) (x2 : Nat) (x3 : Nat) (x4 : Nat) (x5 : Nat) (x6 : Nat) (x7 : Int32) (x8 : Int32) (x9 : Int32) (x10 : Int32) (t0 : Int32) (S : cS) : Prop :=
k_L_isIn (fun r_5 S_5 => 
((r_5 = 0 →
  k_L_files_206 Q dp R51 x0 x1 x2 x3 x4 x5 x6 x7 x8 x9 t0 ((nI 0)) S_5) ∧
 (¬ r_5 = 0 →
  cX S_5 x3 14 ((((nI 32)) + x8)) ∧ (k_L_files_206 Q dp R51 x0 x1 x2 x3 x4 x5 x6 x7 x8 x9 t0 ((x10 &&& ((((cI S_5 x3 ((((nI 32)) + x8)).toNatClampNeg)) ^^^ (((-1))))))) S_5)))) dp x3 x8 S
def k_L_files_136 (Q : Int32 → cS → Prop) (dp : Nat) (R51 : Nat → Nat → Nat → Nat → Nat → Nat → Nat → Int32 → Int32 → cS → Prop) (R108 : Nat → Nat → Nat → Nat → Nat → Nat → Nat → Int32 → Int32 → Int32 → Int32 → cS → Prop) (x0 : Nat) (x1 : Nat) (x2 : Nat) (x3 : Nat) (x4 : Nat) (x5 : Nat) (x6 : Nat) (x7 : Int32) (x8 : Int32) (x10 : Int32) (t0 : Int32) (S : cS) : Prop :=
∀ x10_8 : Int32, x10_8 = x10 + nI 1 → R108 x0 x1 x2 x3 x4 x5 x6 x7 x8 t0 x10_8 S
def k_L_files_108 (Q : Int32 → cS → Prop) (dp : Nat) (R51 : Nat → Nat → Nat → Nat → Nat → Nat → Nat → Int32 → Int32 → cS → Prop) (R108 : Nat → Nat → Nat → Nat → Nat → Nat → Nat → Int32 → Int32 → Int32 → Int32 → cS → Prop) (x0 : Nat) (x1 : Nat) (x2 : Nat) (x3 : Nat) (x4 : Nat) (x5 : Nat) (x6 : Nat) (x7 : Int32) (x8 : Int32) (x9 : Int32) (x10 : Int32) (S : cS) : Prop :=
cX S x6 14 ((nI 3)) ∧ (((((cI S x6 ((nI 3)).toNatClampNeg)) ≤ x10 →
  cX S x0 14 x8 ∧ (∀ x10_3 : Int32, x10_3 = (((((nI 1)) <<< (((cI S x0 (x8).toNatClampNeg)) &&& 31))) - ((nI 1))) → k_L_isIn (fun r_4 S_4 => 
  ((r_4 = 0 →
    k_L_files_179 Q dp R51 x0 x1 x2 x3 x4 x5 x6 x7 x8 x9 x10_3 ((nI 0)) S_4) ∧
   (¬ r_4 = 0 →
    cX S_4 x2 14 ((((nI 32)) + x8)) ∧ (k_L_files_179 Q dp R51 x0 x1 x2 x3 x4 x5 x6 x7 x8 x9 x10_3 ((x10_3 &&& ((((cI S_4 x2 ((((nI 32)) + x8)).toNatClampNeg)) ^^^ (((-1))))))) S_4)))) dp x2 x8 S)) ∧
 (¬ ((cI S x6 ((nI 3)).toNatClampNeg)) ≤ x10 →
  ((¬ x9 = 0 →
    k_L_files_136 Q dp R51 R108 x0 x1 x2 x3 x4 x5 x6 x7 x8 x10 ((nI 1)) S) ∧
   (x9 = 0 →
    cX S x1 14 x10 ∧ (((¬ ((cI S x1 (x10).toNatClampNeg)) = x8 →
      k_L_files_136 Q dp R51 R108 x0 x1 x2 x3 x4 x5 x6 x7 x8 x10 ((nI 0)) S) ∧
     (((cI S x1 (x10).toNatClampNeg)) = x8 →
      k_L_files_136 Q dp R51 R108 x0 x1 x2 x3 x4 x5 x6 x7 x8 x10 ((nI 1)) S))))))))
def k_L_files_108L (Q : Int32 → cS → Prop) (dp : Nat) (R51 : Nat → Nat → Nat → Nat → Nat → Nat → Nat → Int32 → Int32 → cS → Prop) (x0 : Nat) (x1 : Nat) (x2 : Nat) (x3 : Nat) (x4 : Nat) (x5 : Nat) (x6 : Nat) (x7 : Int32) (x8 : Int32) (x9 : Int32) (x10 : Int32) (S : cS) : Prop :=
  lfp (X := Nat × Nat × Nat × Nat × Nat × Nat × Nat × Int32 × Int32 × Int32 × Int32 × cS) (fun P y => k_L_files_108 Q dp R51 (fun b0 b1 b2 b3 b4 b5 b6 b7 b8 b9 b10 S => P (b0, b1, b2, b3, b4, b5, b6, b7, b8, b9, b10, S)) y.1 y.2.1 y.2.2.1 y.2.2.2.1 y.2.2.2.2.1 y.2.2.2.2.2.1 y.2.2.2.2.2.2.1 y.2.2.2.2.2.2.2.1 y.2.2.2.2.2.2.2.2.1 y.2.2.2.2.2.2.2.2.2.1 y.2.2.2.2.2.2.2.2.2.2.1 y.2.2.2.2.2.2.2.2.2.2.2) (x0, x1, x2, x3, x4, x5, x6, x7, x8, x9, x10, S)
def k_L_files_103 (Q : Int32 → cS → Prop) (dp : Nat) (R51 : Nat → Nat → Nat → Nat → Nat → Nat → Nat → Int32 → Int32 → cS → Prop) (x0 : Nat) (x1 : Nat) (x2 : Nat) (x3 : Nat) (x4 : Nat) (x5 : Nat) (x6 : Nat) (x7 : Int32) (x8 : Int32) (t0 : Int32) (S : cS) : Prop :=
k_L_files_108L Q dp R51 x0 x1 x2 x3 x4 x5 x6 x7 x8 t0 (((nI 0))) S
def k_L_files_51 (Q : Int32 → cS → Prop) (dp : Nat) (R51 : Nat → Nat → Nat → Nat → Nat → Nat → Nat → Int32 → Int32 → cS → Prop) (x0 : Nat) (x1 : Nat) (x2 : Nat) (x3 : Nat) (x4 : Nat) (x5 : Nat) (x6 : Nat) (x7 : Int32) (x8 : Int32) (S : cS) : Prop :=
cX S x6 14 ((nI 2)) ∧ (((((cI S x6 ((nI 2)).toNatClampNeg)) ≤ x8 →
  Q x7 S) ∧
 (¬ ((cI S x6 ((nI 2)).toNatClampNeg)) ≤ x8 →
  k_L_isIn (fun r_2 S_2 => 
  ((¬ r_2 = 0 →
    k_L_files_103 Q dp R51 x0 x1 x2 x3 x4 x5 x6 x7 x8 ((nI 1)) S_2) ∧
   (r_2 = 0 →
    k_L_isIn (fun r_9 S_9 => 
    ((¬ r_9 = 0 →
      k_L_files_103 Q dp R51 x0 x1 x2 x3 x4 x5 x6 x7 x8 ((nI 1)) S_9) ∧
     (r_9 = 0 →
      k_L_isIn (fun r_10 S_10 => 
      ((¬ r_10 = 0 →
        k_L_files_103 Q dp R51 x0 x1 x2 x3 x4 x5 x6 x7 x8 ((nI 1)) S_10) ∧
       (r_10 = 0 →
        k_L_isIn (fun r_11 S_11 => 
        ((r_11 = 0 →
          k_L_files_103 Q dp R51 x0 x1 x2 x3 x4 x5 x6 x7 x8 ((nI 0)) S_11) ∧
         (¬ r_11 = 0 →
          k_L_files_103 Q dp R51 x0 x1 x2 x3 x4 x5 x6 x7 x8 ((nI 1)) S_11))) dp x5 x8 S_10))) dp x4 x8 S_9))) dp x3 x8 S_2))) dp x2 x8 S)))
def k_L_files_51L (Q : Int32 → cS → Prop) (dp : Nat)  (x0 : Nat) (x1 : Nat) (x2 : Nat) (x3 : Nat) (x4 : Nat) (x5 : Nat) (x6 : Nat) (x7 : Int32) (x8 : Int32) (S : cS) : Prop :=
  lfp (X := Nat × Nat × Nat × Nat × Nat × Nat × Nat × Int32 × Int32 × cS) (fun P y => k_L_files_51 Q dp  (fun b0 b1 b2 b3 b4 b5 b6 b7 b8 S => P (b0, b1, b2, b3, b4, b5, b6, b7, b8, S)) y.1 y.2.1 y.2.2.1 y.2.2.2.1 y.2.2.2.2.1 y.2.2.2.2.2.1 y.2.2.2.2.2.2.1 y.2.2.2.2.2.2.2.1 y.2.2.2.2.2.2.2.2.1 y.2.2.2.2.2.2.2.2.2) (x0, x1, x2, x3, x4, x5, x6, x7, x8, S)
def k_L_files_45 (Q : Int32 → cS → Prop) (dp : Nat)  (x0 : Nat) (x1 : Nat) (x2 : Nat) (x3 : Nat) (x4 : Nat) (x5 : Nat) (x6 : Nat) (t0 : Int32) (t1 : Int32) (S : cS) : Prop :=
∀ x7_1 : Int32, x7_1 = (t1 + t0) → k_L_files_51L Q dp  x0 x1 x2 x3 x4 x5 x6 x7_1 (((nI 0))) S
def k_L_files_44 (Q : Int32 → cS → Prop) (dp : Nat)  (x0 : Nat) (x1 : Nat) (x2 : Nat) (x3 : Nat) (x4 : Nat) (x5 : Nat) (x6 : Nat) (t0 : Int32) (S : cS) : Prop :=
k_L_files_45 Q dp  x0 x1 x2 x3 x4 x5 x6 ((nI 0)) t0 S
def k_L_files_22 (Q : Int32 → cS → Prop) (dp : Nat)  (x0 : Nat) (x1 : Nat) (x2 : Nat) (x3 : Nat) (x4 : Nat) (x5 : Nat) (x6 : Nat) (t0 : Int32) (t1 : Int32) (S : cS) : Prop :=
cX S x6 14 ((nI 9)) ∧ (((¬ ((cI S x6 ((nI 9)).toNatClampNeg)) = ((nI 1)) →
  k_L_files_44 Q dp  x0 x1 x2 x3 x4 x5 x6 ((t1 + t0)) S) ∧
 (((cI S x6 ((nI 9)).toNatClampNeg)) = ((nI 1)) →
  cX S x6 14 ((nI 11)) ∧ (((((cI S x6 ((nI 11)).toNatClampNeg)) ≤ 0 →
    k_L_files_44 Q dp  x0 x1 x2 x3 x4 x5 x6 ((t1 + t0)) S) ∧
   (¬ ((cI S x6 ((nI 11)).toNatClampNeg)) ≤ 0 →
    k_L_files_45 Q dp  x0 x1 x2 x3 x4 x5 x6 ((nI 1)) ((t1 + t0)) S))))))
def k_L_files_11 (Q : Int32 → cS → Prop) (dp : Nat)  (x0 : Nat) (x1 : Nat) (x2 : Nat) (x3 : Nat) (x4 : Nat) (x5 : Nat) (x6 : Nat) (t0 : Int32) (S : cS) : Prop :=
cX S x3 14 ((nI 0)) ∧ (((((cI S x3 ((nI 0)).toNatClampNeg)) ≤ 0 →
  k_L_files_22 Q dp  x0 x1 x2 x3 x4 x5 x6 ((nI 0)) t0 S) ∧
 (¬ ((cI S x3 ((nI 0)).toNatClampNeg)) ≤ 0 →
  k_L_files_22 Q dp  x0 x1 x2 x3 x4 x5 x6 ((nI 1)) t0 S)))
def k_L_files (Q : Int32 → cS → Prop) (dp : Nat) (x0 : Nat) (x1 : Nat) (x2 : Nat) (x3 : Nat) (x4 : Nat) (x5 : Nat) (x6 : Nat) (S : cS) : Prop :=
cX S x2 14 ((nI 0)) ∧ (((((cI S x2 ((nI 0)).toNatClampNeg)) ≤ 0 →
  k_L_files_11 Q dp  x0 x1 x2 x3 x4 x5 x6 ((nI 0)) S) ∧
 (¬ ((cI S x2 ((nI 0)).toNatClampNeg)) ≤ 0 →
  k_L_files_11 Q dp  x0 x1 x2 x3 x4 x5 x6 ((nI 1)) S)))
def k_L_ones_4 (Q : Int32 → cS → Prop) (dp : Nat) (R4 : Int32 → Int32 → cS → Prop) (x1 : Int32) (x2 : Int32) (S : cS) : Prop :=
((x2 = 0 →
  Q x1 S) ∧
 (¬ x2 = 0 →
  ∀ x1_1 : Int32, x1_1 = x1 + nI 1 → ∀ x2_2 : Int32, x2_2 = (x2 &&& ((x2 - ((nI 1))))) → R4 x1_1 x2_2 S))
def k_L_ones_4L (Q : Int32 → cS → Prop) (dp : Nat)  (x1 : Int32) (x2 : Int32) (S : cS) : Prop :=
  lfp (X := Int32 × Int32 × cS) (fun P y => k_L_ones_4 Q dp  (fun b0 b1 S => P (b0, b1, S)) y.1 y.2.1 y.2.2) (x1, x2, S)
def k_L_ones (Q : Int32 → cS → Prop) (dp : Nat) (x0 : Int32) (S : cS) : Prop :=
k_L_ones_4L Q dp  (((nI 0))) x0 S
def k_L_types_229 (Q : cS → Prop) (dp : Nat)  (t0 : Int32) (t1 : Nat) (S : cS) : Prop :=
cA S t1 11 ∧ (k_X11_type (fun r_7 S_7 => 
Q S_7) dp t1 t0 S)
def k_L_types_216 (Q : cS → Prop) (dp : Nat)  (x0 : Nat) (x1 : Int32) (S : cS) : Prop :=
((¬ x1 = ((nI 4)) →
  k_L_types_229 Q dp  ((nI 32)) x0 S) ∧
 (x1 = ((nI 4)) →
  k_L_types_229 Q dp  ((nI 45)) x0 S))
def k_L_types_189 (Q : cS → Prop) (dp : Nat)  (x0 : Nat) (x1 : Int32) (S : cS) : Prop :=
((¬ x1 = ((nI 7)) →
  k_L_types_216 Q dp  x0 x1 S) ∧
 (x1 = ((nI 7)) →
  cA S x0 11 ∧ (k_X11_type (fun r_8 S_8 => 
  cA S_8 x0 11 ∧ (k_X11_type (fun r_9 S_9 => 
  cA S_9 x0 11 ∧ (k_X11_type (fun r_10 S_10 => 
  k_L_types_216 Q dp  x0 x1 S_10) dp x0 ((nI 101)) S_9)) dp x0 ((nI 104)) S_8)) dp x0 ((nI 116)) S)))
def k_L_types_155 (Q : cS → Prop) (dp : Nat)  (x0 : Nat) (x1 : Int32) (S : cS) : Prop :=
((¬ x1 = ((nI 6)) →
  k_L_types_189 Q dp  x0 x1 S) ∧
 (x1 = ((nI 6)) →
  cA S x0 11 ∧ (k_X11_type (fun r_11 S_11 => 
  cA S_11 x0 11 ∧ (k_X11_type (fun r_12 S_12 => 
  cA S_12 x0 11 ∧ (k_X11_type (fun r_13 S_13 => 
  cA S_13 x0 11 ∧ (k_X11_type (fun r_14 S_14 => 
  k_L_types_189 Q dp  x0 x1 S_14) dp x0 ((nI 115)) S_13)) dp x0 ((nI 115)) S_12)) dp x0 ((nI 111)) S_11)) dp x0 ((nI 98)) S)))
def k_L_types_134 (Q : cS → Prop) (dp : Nat)  (x0 : Nat) (x1 : Int32) (S : cS) : Prop :=
cA S x0 11 ∧ (k_X11_type (fun r_4 S_4 => 
cA S_4 x0 11 ∧ (k_X11_type (fun r_5 S_5 => 
cA S_5 x0 11 ∧ (k_X11_type (fun r_6 S_6 => 
k_L_types_155 Q dp  x0 x1 S_6) dp x0 ((nI 103)) S_5)) dp x0 ((nI 110)) S_4)) dp x0 ((nI 105)) S)
def k_L_types_124 (Q : cS → Prop) (dp : Nat)  (x0 : Nat) (x1 : Int32) (S : cS) : Prop :=
((x1 = ((nI 3)) →
  k_L_types_134 Q dp  x0 x1 S) ∧
 (¬ x1 = ((nI 3)) →
  ((¬ x1 = ((nI 5)) →
    k_L_types_155 Q dp  x0 x1 S) ∧
   (x1 = ((nI 5)) →
    k_L_types_134 Q dp  x0 x1 S))))
def k_L_types_112 (Q : cS → Prop) (dp : Nat)  (x0 : Nat) (x1 : Int32) (S : cS) : Prop :=
((¬ x1 = ((nI 5)) →
  k_L_types_124 Q dp  x0 x1 S) ∧
 (x1 = ((nI 5)) →
  cA S x0 11 ∧ (k_X11_type (fun r_15 S_15 => 
  k_L_types_124 Q dp  x0 x1 S_15) dp x0 ((nI 115)) S)))
def k_L_types_86 (Q : cS → Prop) (dp : Nat)  (x0 : Nat) (x1 : Int32) (S : cS) : Prop :=
((¬ x1 = ((nI 4)) →
  k_L_types_112 Q dp  x0 x1 S) ∧
 (x1 = ((nI 4)) →
  cA S x0 11 ∧ (k_X11_type (fun r_16 S_16 => 
  cA S_16 x0 11 ∧ (k_X11_type (fun r_17 S_17 => 
  cA S_17 x0 11 ∧ (k_X11_type (fun r_18 S_18 => 
  k_L_types_112 Q dp  x0 x1 S_18) dp x0 ((nI 100)) S_17)) dp x0 ((nI 101)) S_16)) dp x0 ((nI 82)) S)))
def k_L_types_53 (Q : cS → Prop) (dp : Nat)  (x0 : Nat) (x1 : Int32) (S : cS) : Prop :=
((¬ x1 = ((nI 3)) →
  k_L_types_86 Q dp  x0 x1 S) ∧
 (x1 = ((nI 3)) →
  cA S x0 11 ∧ (k_X11_type (fun r_19 S_19 => 
  cA S_19 x0 11 ∧ (k_X11_type (fun r_20 S_20 => 
  cA S_20 x0 11 ∧ (k_X11_type (fun r_21 S_21 => 
  cA S_21 x0 11 ∧ (k_X11_type (fun r_22 S_22 => 
  k_L_types_86 Q dp  x0 x1 S_22) dp x0 ((nI 110)) S_21)) dp x0 ((nI 110)) S_20)) dp x0 ((nI 117)) S_19)) dp x0 ((nI 114)) S)))
def k_L_types_41 (Q : cS → Prop) (dp : Nat)  (x0 : Nat) (x1 : Int32) (S : cS) : Prop :=
((¬ x1 = ((nI 2)) →
  k_L_types_53 Q dp  x0 x1 S) ∧
 (x1 = ((nI 2)) →
  cA S x0 11 ∧ (k_X11_type (fun r_23 S_23 => 
  k_L_types_53 Q dp  x0 x1 S_23) dp x0 ((nI 83)) S)))
def k_L_types_23 (Q : cS → Prop) (dp : Nat)  (x0 : Nat) (x1 : Int32) (t0 : Int32) (t1 : Nat) (S : cS) : Prop :=
cA S t1 11 ∧ (k_X11_type (fun r_1 S_1 => 
cA S_1 x0 11 ∧ (k_X11_type (fun r_2 S_2 => 
cA S_2 x0 11 ∧ (k_X11_type (fun r_3 S_3 => 
k_L_types_41 Q dp  x0 x1 S_3) dp x0 ((nI 116)) S_2)) dp x0 ((nI 97)) S_1)) dp t1 t0 S)
def k_L_types_10 (Q : cS → Prop) (dp : Nat)  (x0 : Nat) (x1 : Int32) (S : cS) : Prop :=
((¬ x1 = ((nI 1)) →
  k_L_types_23 Q dp  x0 x1 ((nI 67)) x0 S) ∧
 (x1 = ((nI 1)) →
  k_L_types_23 Q dp  x0 x1 ((nI 99)) x0 S))
def k_L_types (Q : cS → Prop) (dp : Nat) (x0 : Nat) (x1 : Int32) (S : cS) : Prop :=
((x1 = ((nI 1)) →
  k_L_types_10 Q dp  x0 x1 S) ∧
 (¬ x1 = ((nI 1)) →
  ((¬ x1 = ((nI 2)) →
    k_L_types_41 Q dp  x0 x1 S) ∧
   (x1 = ((nI 2)) →
    k_L_types_10 Q dp  x0 x1 S))))
def k_L_isReady_486 (Q : Int32 → cS → Prop) (dp : Nat) (mc ms : Nat)  (x0 : Nat) (t0 : Int32) (cd dd : Nat) (S : cS) : Prop :=
(cd ≤ mc ∧ dd ≤ ms) ∧ (k_L_types (fun S_19 => 
((t0 = 0 →
  (cd ≤ mc ∧ dd ≤ ms) ∧ (Q ((bI false)) S_19)) ∧
 (¬ t0 = 0 →
  cA S_19 x0 11 ∧ ((∃ mc20 ms21 : Nat, cd + mc20 ≤ mc ∧ dd + ms21 ≤ ms ∧ (k_X11_term (fun r_22 S_22 => 
  ((¬ r_22 = ((nI 2)) →
    (cd + mc20 ≤ mc ∧ dd + ms21 ≤ ms) ∧ (Q ((bI false)) S_22)) ∧
   (r_22 = ((nI 2)) →
    cA S_22 x0 11 ∧ ((∃ mc23 ms24 : Nat, cd + mc20 + mc23 ≤ mc ∧ dd + ms21 + ms24 ≤ ms ∧ (k_X11_but (fun r_25 S_25 => 
    ((¬ r_25 = ((nI 1)) →
      (cd + mc20 + mc23 ≤ mc ∧ dd + ms21 + ms24 ≤ ms) ∧ (Q ((bI false)) S_25)) ∧
     (r_25 = ((nI 1)) →
      cA S_25 x0 11 ∧ ((∃ mc26 ms27 : Nat, cd + mc20 + mc23 + mc26 ≤ mc ∧ dd + ms21 + ms24 + ms27 ≤ ms ∧ (k_X11_query (fun r_28 S_28 => 
      ((¬ r_28 = ((nI 8)) →
        (cd + mc20 + mc23 + mc26 ≤ mc ∧ dd + ms21 + ms24 + ms27 ≤ ms) ∧ (Q ((bI false)) S_28)) ∧
       (r_28 = ((nI 8)) →
        (cd + mc20 + mc23 + mc26 ≤ mc ∧ dd + ms21 + ms24 + ms27 ≤ ms) ∧ (Q ((bI true)) S_28)))) dp mc26 ms27 x0 S_25)))))) dp mc23 ms24 x0 S_22)))))) dp mc20 ms21 x0 ((nI 1)) S_19)))))) dp x0 ((nI 4)) S)
def k_L_isReady_485 (Q : Int32 → cS → Prop) (dp : Nat) (mc ms : Nat)  (x0 : Nat) (cd dd : Nat) (S : cS) : Prop :=
k_L_isReady_486 Q dp mc ms  x0 ((nI 0)) cd dd S
def k_L_isReady_451 (Q : Int32 → cS → Prop) (dp : Nat) (mc ms : Nat)  (x0 : Nat) (t0 : Int32) (cd dd : Nat) (S : cS) : Prop :=
(cd ≤ mc ∧ dd ≤ ms) ∧ (k_L_types (fun S_18 => 
((t0 = 0 →
  k_L_isReady_485 Q dp mc ms  x0 cd dd S_18) ∧
 (¬ t0 = 0 →
  cA S_18 x0 11 ∧ ((∃ mc29 ms30 : Nat, cd + mc29 ≤ mc ∧ dd + ms30 ≤ ms ∧ (k_X11_term (fun r_31 S_31 => 
  ((¬ r_31 = ((nI 2)) →
    k_L_isReady_485 Q dp mc ms  x0 (cd + mc29) (dd + ms30) S_31) ∧
   (r_31 = ((nI 2)) →
    cA S_31 x0 11 ∧ ((∃ mc32 ms33 : Nat, cd + mc29 + mc32 ≤ mc ∧ dd + ms30 + ms33 ≤ ms ∧ (k_X11_least (fun r_34 S_34 => 
    ((¬ r_34 = ((nI 1)) →
      k_L_isReady_485 Q dp mc ms  x0 (cd + mc29 + mc32) (dd + ms30 + ms33) S_34) ∧
     (r_34 = ((nI 1)) →
      k_L_isReady_486 Q dp mc ms  x0 ((nI 1)) (cd + mc29 + mc32) (dd + ms30 + ms33) S_34))) dp mc32 ms33 x0 ((nI 2)) ((nI 2)) S_31)))))) dp mc29 ms30 x0 ((nI 0)) S_18)))))) dp x0 ((nI 6)) S)
def k_L_isReady_450 (Q : Int32 → cS → Prop) (dp : Nat) (mc ms : Nat)  (x0 : Nat) (cd dd : Nat) (S : cS) : Prop :=
k_L_isReady_451 Q dp mc ms  x0 ((nI 0)) cd dd S
def k_L_isReady_427 (Q : Int32 → cS → Prop) (dp : Nat) (mc ms : Nat)  (x0 : Nat) (t0 : Int32) (cd dd : Nat) (S : cS) : Prop :=
(cd ≤ mc ∧ dd ≤ ms) ∧ (k_L_types (fun S_17 => 
((t0 = 0 →
  k_L_isReady_450 Q dp mc ms  x0 cd dd S_17) ∧
 (¬ t0 = 0 →
  cA S_17 x0 11 ∧ ((∃ mc35 ms36 : Nat, cd + mc35 ≤ mc ∧ dd + ms36 ≤ ms ∧ (k_X11_term (fun r_37 S_37 => 
  ((¬ r_37 = ((nI 1)) →
    k_L_isReady_450 Q dp mc ms  x0 (cd + mc35) (dd + ms36) S_37) ∧
   (r_37 = ((nI 1)) →
    k_L_isReady_451 Q dp mc ms  x0 ((nI 1)) (cd + mc35) (dd + ms36) S_37))) dp mc35 ms36 x0 ((nI 0)) S_17)))))) dp x0 ((nI 1)) S)
def k_L_isReady_426 (Q : Int32 → cS → Prop) (dp : Nat) (mc ms : Nat)  (x0 : Nat) (cd dd : Nat) (S : cS) : Prop :=
k_L_isReady_427 Q dp mc ms  x0 ((nI 0)) cd dd S
def k_L_isReady_384 (Q : Int32 → cS → Prop) (dp : Nat) (mc ms : Nat)  (x0 : Nat) (t0 : Int32) (cd dd : Nat) (S : cS) : Prop :=
(cd ≤ mc ∧ dd ≤ ms) ∧ (k_L_types (fun S_16 => 
((t0 = 0 →
  k_L_isReady_426 Q dp mc ms  x0 cd dd S_16) ∧
 (¬ t0 = 0 →
  cA S_16 x0 11 ∧ ((∃ mc38 ms39 : Nat, cd + mc38 ≤ mc ∧ dd + ms39 ≤ ms ∧ (k_X11_term (fun r_40 S_40 => 
  ((¬ r_40 = ((nI 3)) →
    k_L_isReady_426 Q dp mc ms  x0 (cd + mc38) (dd + ms39) S_40) ∧
   (r_40 = ((nI 3)) →
    cA S_40 x0 11 ∧ ((∃ mc41 ms42 : Nat, cd + mc38 + mc41 ≤ mc ∧ dd + ms39 + ms42 ≤ ms ∧ (k_X11_least (fun r_43 S_43 => 
    ((¬ r_43 = ((nI 1)) →
      k_L_isReady_426 Q dp mc ms  x0 (cd + mc38 + mc41) (dd + ms39 + ms42) S_43) ∧
     (r_43 = ((nI 1)) →
      cA S_43 x0 11 ∧ ((∃ mc44 ms45 : Nat, cd + mc38 + mc41 + mc44 ≤ mc ∧ dd + ms39 + ms42 + ms45 ≤ ms ∧ (k_X11_query (fun r_46 S_46 => 
      ((¬ r_46 = ((nI 7)) →
        k_L_isReady_426 Q dp mc ms  x0 (cd + mc38 + mc41 + mc44) (dd + ms39 + ms42 + ms45) S_46) ∧
       (r_46 = ((nI 7)) →
        k_L_isReady_427 Q dp mc ms  x0 ((nI 1)) (cd + mc38 + mc41 + mc44) (dd + ms39 + ms42 + ms45) S_46))) dp mc44 ms45 x0 S_43)))))) dp mc41 ms42 x0 ((nI 3)) ((nI 1)) S_40)))))) dp mc38 ms39 x0 ((nI 0)) S_16)))))) dp x0 ((nI 5)) S)
def k_L_isReady_383 (Q : Int32 → cS → Prop) (dp : Nat) (mc ms : Nat)  (x0 : Nat) (cd dd : Nat) (S : cS) : Prop :=
k_L_isReady_384 Q dp mc ms  x0 ((nI 0)) cd dd S
def k_L_isReady_360 (Q : Int32 → cS → Prop) (dp : Nat) (mc ms : Nat)  (x0 : Nat) (t0 : Int32) (cd dd : Nat) (S : cS) : Prop :=
(cd ≤ mc ∧ dd ≤ ms) ∧ (k_L_types (fun S_15 => 
((t0 = 0 →
  k_L_isReady_383 Q dp mc ms  x0 cd dd S_15) ∧
 (¬ t0 = 0 →
  cA S_15 x0 11 ∧ ((∃ mc47 ms48 : Nat, cd + mc47 ≤ mc ∧ dd + ms48 ≤ ms ∧ (k_X11_term (fun r_49 S_49 => 
  ((¬ r_49 = ((nI 2)) →
    k_L_isReady_383 Q dp mc ms  x0 (cd + mc47) (dd + ms48) S_49) ∧
   (r_49 = ((nI 2)) →
    k_L_isReady_384 Q dp mc ms  x0 ((nI 1)) (cd + mc47) (dd + ms48) S_49))) dp mc47 ms48 x0 ((nI 1)) S_15)))))) dp x0 ((nI 4)) S)
def k_L_isReady_359 (Q : Int32 → cS → Prop) (dp : Nat) (mc ms : Nat)  (x0 : Nat) (cd dd : Nat) (S : cS) : Prop :=
k_L_isReady_360 Q dp mc ms  x0 ((nI 0)) cd dd S
def k_L_isReady_336 (Q : Int32 → cS → Prop) (dp : Nat) (mc ms : Nat)  (x0 : Nat) (t0 : Int32) (cd dd : Nat) (S : cS) : Prop :=
(cd ≤ mc ∧ dd ≤ ms) ∧ (k_L_types (fun S_14 => 
((t0 = 0 →
  k_L_isReady_359 Q dp mc ms  x0 cd dd S_14) ∧
 (¬ t0 = 0 →
  cA S_14 x0 11 ∧ ((∃ mc50 ms51 : Nat, cd + mc50 ≤ mc ∧ dd + ms51 ≤ ms ∧ (k_X11_term (fun r_52 S_52 => 
  ((¬ r_52 = ((nI 1)) →
    k_L_isReady_359 Q dp mc ms  x0 (cd + mc50) (dd + ms51) S_52) ∧
   (r_52 = ((nI 1)) →
    k_L_isReady_360 Q dp mc ms  x0 ((nI 1)) (cd + mc50) (dd + ms51) S_52))) dp mc50 ms51 x0 ((nI 0)) S_14)))))) dp x0 ((nI 1)) S)
def k_L_isReady_335 (Q : Int32 → cS → Prop) (dp : Nat) (mc ms : Nat)  (x0 : Nat) (cd dd : Nat) (S : cS) : Prop :=
k_L_isReady_336 Q dp mc ms  x0 ((nI 0)) cd dd S
def k_L_isReady_154 (Q : Int32 → cS → Prop) (dp : Nat) (mc ms : Nat)  (x0 : Nat) (t0 : Int32) (cd dd : Nat) (S : cS) : Prop :=
(cd ≤ mc ∧ dd ≤ ms) ∧ (k_L_types (fun S_12 => 
(cd ≤ mc ∧ dd ≤ ms) ∧ (k_L_types (fun S_13 => 
((t0 = 0 →
  k_L_isReady_335 Q dp mc ms  x0 cd dd S_13) ∧
 (¬ t0 = 0 →
  cA S_13 x0 11 ∧ ((∃ mc53 ms54 : Nat, cd + mc53 ≤ mc ∧ dd + ms54 ≤ ms ∧ (k_X11_near (fun r_55 S_55 => 
  ((¬ r_55 = ((nI 1)) →
    k_L_isReady_335 Q dp mc ms  x0 (cd + mc53) (dd + ms54) S_55) ∧
   (r_55 = ((nI 1)) →
    cA S_55 x0 11 ∧ ((∃ mc56 ms57 : Nat, cd + mc53 + mc56 ≤ mc ∧ dd + ms54 + ms57 ≤ ms ∧ (k_X11_query (fun r_58 S_58 => 
    ((¬ r_58 = ((nI 3)) →
      k_L_isReady_335 Q dp mc ms  x0 (cd + mc53 + mc56) (dd + ms54 + ms57) S_58) ∧
     (r_58 = ((nI 3)) →
      cA S_58 x0 11 ∧ ((cd + mc53 + mc56 ≤ mc ∧ dd + ms54 + ms57 ≤ ms) ∧ (k_X11_type (fun r_59 S_59 => 
      ((¬ r_59 = ((nI 1)) →
        k_L_isReady_335 Q dp mc ms  x0 (cd + mc53 + mc56) (dd + ms54 + ms57) S_59) ∧
       (r_59 = ((nI 1)) →
        cA S_59 x0 11 ∧ ((cd + mc53 + mc56 ≤ mc ∧ dd + ms54 + ms57 ≤ ms) ∧ (k_X11_type (fun r_60 S_60 => 
        ((¬ r_60 = ((nI 2)) →
          k_L_isReady_335 Q dp mc ms  x0 (cd + mc53 + mc56) (dd + ms54 + ms57) S_60) ∧
         (r_60 = ((nI 2)) →
          cA S_60 x0 11 ∧ ((∃ mc61 ms62 : Nat, cd + mc53 + mc56 + mc61 ≤ mc ∧ dd + ms54 + ms57 + ms62 ≤ ms ∧ (k_X11_prefix (fun r_63 S_63 => 
          ((¬ r_63 = ((nI 1)) →
            k_L_isReady_335 Q dp mc ms  x0 (cd + mc53 + mc56 + mc61) (dd + ms54 + ms57 + ms62) S_63) ∧
           (r_63 = ((nI 1)) →
            cA S_63 x0 11 ∧ ((∃ mc64 ms65 : Nat, cd + mc53 + mc56 + mc61 + mc64 ≤ mc ∧ dd + ms54 + ms57 + ms62 + ms65 ≤ ms ∧ (k_X11_query (fun r_66 S_66 => 
            ((¬ r_66 = ((nI 4)) →
              k_L_isReady_335 Q dp mc ms  x0 (cd + mc53 + mc56 + mc61 + mc64) (dd + ms54 + ms57 + ms62 + ms65) S_66) ∧
             (r_66 = ((nI 4)) →
              cA S_66 x0 11 ∧ ((cd + mc53 + mc56 + mc61 + mc64 ≤ mc ∧ dd + ms54 + ms57 + ms62 + ms65 ≤ ms) ∧ (k_X11_type (fun r_67 S_67 => 
              ((¬ r_67 = ((nI 1)) →
                k_L_isReady_335 Q dp mc ms  x0 (cd + mc53 + mc56 + mc61 + mc64) (dd + ms54 + ms57 + ms62 + ms65) S_67) ∧
               (r_67 = ((nI 1)) →
                cA S_67 x0 11 ∧ ((cd + mc53 + mc56 + mc61 + mc64 ≤ mc ∧ dd + ms54 + ms57 + ms62 + ms65 ≤ ms) ∧ (k_X11_type (fun r_68 S_68 => 
                ((¬ r_68 = ((nI 2)) →
                  k_L_isReady_335 Q dp mc ms  x0 (cd + mc53 + mc56 + mc61 + mc64) (dd + ms54 + ms57 + ms62 + ms65) S_68) ∧
                 (r_68 = ((nI 2)) →
                  cA S_68 x0 11 ∧ ((cd + mc53 + mc56 + mc61 + mc64 ≤ mc ∧ dd + ms54 + ms57 + ms62 + ms65 ≤ ms) ∧ (k_X11_type (fun r_69 S_69 => 
                  ((¬ r_69 = ((nI 3)) →
                    k_L_isReady_335 Q dp mc ms  x0 (cd + mc53 + mc56 + mc61 + mc64) (dd + ms54 + ms57 + ms62 + ms65) S_69) ∧
                   (r_69 = ((nI 3)) →
                    cA S_69 x0 11 ∧ ((cd + mc53 + mc56 + mc61 + mc64 ≤ mc ∧ dd + ms54 + ms57 + ms62 + ms65 ≤ ms) ∧ (k_X11_type (fun r_70 S_70 => 
                    ((¬ r_70 = ((nI 4)) →
                      k_L_isReady_335 Q dp mc ms  x0 (cd + mc53 + mc56 + mc61 + mc64) (dd + ms54 + ms57 + ms62 + ms65) S_70) ∧
                     (r_70 = ((nI 4)) →
                      cA S_70 x0 11 ∧ ((∃ mc71 ms72 : Nat, cd + mc53 + mc56 + mc61 + mc64 + mc71 ≤ mc ∧ dd + ms54 + ms57 + ms62 + ms65 + ms72 ≤ ms ∧ (k_X11_wild (fun r_73 S_73 => 
                      ((¬ r_73 = ((nI 1)) →
                        k_L_isReady_335 Q dp mc ms  x0 (cd + mc53 + mc56 + mc61 + mc64 + mc71) (dd + ms54 + ms57 + ms62 + ms65 + ms72) S_73) ∧
                       (r_73 = ((nI 1)) →
                        cA S_73 x0 11 ∧ ((∃ mc74 ms75 : Nat, cd + mc53 + mc56 + mc61 + mc64 + mc71 + mc74 ≤ mc ∧ dd + ms54 + ms57 + ms62 + ms65 + ms72 + ms75 ≤ ms ∧ (k_X11_query (fun r_76 S_76 => 
                        ((¬ r_76 = ((nI 5)) →
                          k_L_isReady_335 Q dp mc ms  x0 (cd + mc53 + mc56 + mc61 + mc64 + mc71 + mc74) (dd + ms54 + ms57 + ms62 + ms65 + ms72 + ms75) S_76) ∧
                         (r_76 = ((nI 5)) →
                          cA S_76 x0 11 ∧ ((cd + mc53 + mc56 + mc61 + mc64 + mc71 + mc74 ≤ mc ∧ dd + ms54 + ms57 + ms62 + ms65 + ms72 + ms75 ≤ ms) ∧ (k_X11_type (fun r_77 S_77 => 
                          ((¬ r_77 = ((nI 1)) →
                            k_L_isReady_335 Q dp mc ms  x0 (cd + mc53 + mc56 + mc61 + mc64 + mc71 + mc74) (dd + ms54 + ms57 + ms62 + ms65 + ms72 + ms75) S_77) ∧
                           (r_77 = ((nI 1)) →
                            cA S_77 x0 11 ∧ ((cd + mc53 + mc56 + mc61 + mc64 + mc71 + mc74 ≤ mc ∧ dd + ms54 + ms57 + ms62 + ms65 + ms72 + ms75 ≤ ms) ∧ (k_X11_type (fun r_78 S_78 => 
                            ((¬ r_78 = ((nI 2)) →
                              k_L_isReady_335 Q dp mc ms  x0 (cd + mc53 + mc56 + mc61 + mc64 + mc71 + mc74) (dd + ms54 + ms57 + ms62 + ms65 + ms72 + ms75) S_78) ∧
                             (r_78 = ((nI 2)) →
                              cA S_78 x0 11 ∧ ((cd + mc53 + mc56 + mc61 + mc64 + mc71 + mc74 ≤ mc ∧ dd + ms54 + ms57 + ms62 + ms65 + ms72 + ms75 ≤ ms) ∧ (k_X11_type (fun r_79 S_79 => 
                              ((¬ r_79 = ((nI 3)) →
                                k_L_isReady_335 Q dp mc ms  x0 (cd + mc53 + mc56 + mc61 + mc64 + mc71 + mc74) (dd + ms54 + ms57 + ms62 + ms65 + ms72 + ms75) S_79) ∧
                               (r_79 = ((nI 3)) →
                                cA S_79 x0 11 ∧ ((∃ mc80 ms81 : Nat, cd + mc53 + mc56 + mc61 + mc64 + mc71 + mc74 + mc80 ≤ mc ∧ dd + ms54 + ms57 + ms62 + ms65 + ms72 + ms75 + ms81 ≤ ms ∧ (k_X11_fuzzy (fun r_82 S_82 => 
                                ((¬ r_82 = ((nI 1)) →
                                  k_L_isReady_335 Q dp mc ms  x0 (cd + mc53 + mc56 + mc61 + mc64 + mc71 + mc74 + mc80) (dd + ms54 + ms57 + ms62 + ms65 + ms72 + ms75 + ms81) S_82) ∧
                                 (r_82 = ((nI 1)) →
                                  cA S_82 x0 11 ∧ ((∃ mc83 ms84 : Nat, cd + mc53 + mc56 + mc61 + mc64 + mc71 + mc74 + mc80 + mc83 ≤ mc ∧ dd + ms54 + ms57 + ms62 + ms65 + ms72 + ms75 + ms81 + ms84 ≤ ms ∧ (k_X11_query (fun r_85 S_85 => 
                                  ((¬ r_85 = ((nI 6)) →
                                    k_L_isReady_335 Q dp mc ms  x0 (cd + mc53 + mc56 + mc61 + mc64 + mc71 + mc74 + mc80 + mc83) (dd + ms54 + ms57 + ms62 + ms65 + ms72 + ms75 + ms81 + ms84) S_85) ∧
                                   (r_85 = ((nI 6)) →
                                    k_L_isReady_336 Q dp mc ms  x0 ((nI 1)) (cd + mc53 + mc56 + mc61 + mc64 + mc71 + mc74 + mc80 + mc83) (dd + ms54 + ms57 + ms62 + ms65 + ms72 + ms75 + ms81 + ms84) S_85))) dp mc83 ms84 x0 S_82)))))) dp mc80 ms81 x0 ((nI 0)) ((nI 1)) S_79)))))) dp x0 ((nI 116)) S_78))))) dp x0 ((nI 111)) S_77))))) dp x0 ((nI 99)) S_76))))) dp mc74 ms75 x0 S_73)))))) dp mc71 ms72 x0 ((nI 1)) S_70)))))) dp x0 ((nI 115)) S_69))))) dp x0 ((nI 42)) S_68))))) dp x0 ((nI 111)) S_67))))) dp x0 ((nI 63)) S_66))))) dp mc64 ms65 x0 S_63)))))) dp mc61 ms62 x0 ((nI 0)) S_60)))))) dp x0 ((nI 85)) S_59))))) dp x0 ((nI 114)) S_58))))) dp mc56 ms57 x0 S_55)))))) dp mc53 ms54 x0 ((nI 0)) ((nI 2)) ((nI 0)) S_13)))))) dp x0 ((nI 5)) S_12)) dp x0 ((nI 2)) S)
def k_L_isReady_153 (Q : Int32 → cS → Prop) (dp : Nat) (mc ms : Nat)  (x0 : Nat) (cd dd : Nat) (S : cS) : Prop :=
k_L_isReady_154 Q dp mc ms  x0 ((nI 0)) cd dd S
def k_L_isReady_110 (Q : Int32 → cS → Prop) (dp : Nat) (mc ms : Nat)  (x0 : Nat) (t0 : Int32) (cd dd : Nat) (S : cS) : Prop :=
(cd ≤ mc ∧ dd ≤ ms) ∧ (k_L_types (fun S_9 => 
(cd ≤ mc ∧ dd ≤ ms) ∧ (k_L_types (fun S_10 => 
(cd ≤ mc ∧ dd ≤ ms) ∧ (k_L_types (fun S_11 => 
((t0 = 0 →
  k_L_isReady_153 Q dp mc ms  x0 cd dd S_11) ∧
 (¬ t0 = 0 →
  cA S_11 x0 11 ∧ ((∃ mc86 ms87 : Nat, cd + mc86 ≤ mc ∧ dd + ms87 ≤ ms ∧ (k_X11_phrase (fun r_88 S_88 => 
  ((¬ r_88 = ((nI 1)) →
    k_L_isReady_153 Q dp mc ms  x0 (cd + mc86) (dd + ms87) S_88) ∧
   (r_88 = ((nI 1)) →
    cA S_88 x0 11 ∧ ((∃ mc89 ms90 : Nat, cd + mc86 + mc89 ≤ mc ∧ dd + ms87 + ms90 ≤ ms ∧ (k_X11_query (fun r_91 S_91 => 
    ((¬ r_91 = ((nI 2)) →
      k_L_isReady_153 Q dp mc ms  x0 (cd + mc86 + mc89) (dd + ms87 + ms90) S_91) ∧
     (r_91 = ((nI 2)) →
      k_L_isReady_154 Q dp mc ms  x0 ((nI 1)) (cd + mc86 + mc89) (dd + ms87 + ms90) S_91))) dp mc89 ms90 x0 S_88)))))) dp mc86 ms87 x0 ((nI 0)) ((nI 1)) S_11)))))) dp x0 ((nI 4)) S_10)) dp x0 ((nI 7)) S_9)) dp x0 ((nI 1)) S)
def k_L_isReady_109 (Q : Int32 → cS → Prop) (dp : Nat) (mc ms : Nat)  (x0 : Nat) (cd dd : Nat) (S : cS) : Prop :=
k_L_isReady_110 Q dp mc ms  x0 ((nI 0)) cd dd S
def k_L_isReady_78 (Q : Int32 → cS → Prop) (dp : Nat) (mc ms : Nat)  (x0 : Nat) (t0 : Int32) (cd dd : Nat) (S : cS) : Prop :=
(cd ≤ mc ∧ dd ≤ ms) ∧ (k_L_types (fun S_8 => 
((t0 = 0 →
  k_L_isReady_109 Q dp mc ms  x0 cd dd S_8) ∧
 (¬ t0 = 0 →
  cA S_8 x0 11 ∧ ((∃ mc92 ms93 : Nat, cd + mc92 ≤ mc ∧ dd + ms93 ≤ ms ∧ (k_X11_term (fun r_94 S_94 => 
  ((¬ r_94 = ((nI 1)) →
    k_L_isReady_109 Q dp mc ms  x0 (cd + mc92) (dd + ms93) S_94) ∧
   (r_94 = ((nI 1)) →
    cA S_94 x0 11 ∧ ((∃ mc95 ms96 : Nat, cd + mc92 + mc95 ≤ mc ∧ dd + ms93 + ms96 ≤ ms ∧ (k_X11_query (fun r_97 S_97 => 
    ((¬ r_97 = ((nI 1)) →
      k_L_isReady_109 Q dp mc ms  x0 (cd + mc92 + mc95) (dd + ms93 + ms96) S_97) ∧
     (r_97 = ((nI 1)) →
      k_L_isReady_110 Q dp mc ms  x0 ((nI 1)) (cd + mc92 + mc95) (dd + ms93 + ms96) S_97))) dp mc95 ms96 x0 S_94)))))) dp mc92 ms93 x0 ((nI 1)) S_8)))))) dp x0 ((nI 4)) S)
def k_L_isReady_77 (Q : Int32 → cS → Prop) (dp : Nat) (mc ms : Nat)  (x0 : Nat) (cd dd : Nat) (S : cS) : Prop :=
k_L_isReady_78 Q dp mc ms  x0 ((nI 0)) cd dd S
def k_L_isReady_47 (Q : Int32 → cS → Prop) (dp : Nat) (mc ms : Nat)  (x0 : Nat) (t0 : Int32) (cd dd : Nat) (S : cS) : Prop :=
(cd ≤ mc ∧ dd ≤ ms) ∧ (k_L_types (fun S_7 => 
((t0 = 0 →
  k_L_isReady_77 Q dp mc ms  x0 cd dd S_7) ∧
 (¬ t0 = 0 →
  cA S_7 x0 11 ∧ ((∃ mc98 ms99 : Nat, cd + mc98 ≤ mc ∧ dd + ms99 ≤ ms ∧ (k_X11_term (fun r_100 S_100 => 
  ((¬ r_100 = ((nI 1)) →
    k_L_isReady_77 Q dp mc ms  x0 (cd + mc98) (dd + ms99) S_100) ∧
   (r_100 = ((nI 1)) →
    cA S_100 x0 11 ∧ ((∃ mc101 ms102 : Nat, cd + mc98 + mc101 ≤ mc ∧ dd + ms99 + ms102 ≤ ms ∧ (k_X11_query (fun r_103 S_103 => 
    ((¬ r_103 = 0 →
      k_L_isReady_77 Q dp mc ms  x0 (cd + mc98 + mc101) (dd + ms99 + ms102) S_103) ∧
     (r_103 = 0 →
      k_L_isReady_78 Q dp mc ms  x0 ((nI 1)) (cd + mc98 + mc101) (dd + ms99 + ms102) S_103))) dp mc101 ms102 x0 S_100)))))) dp mc98 ms99 x0 ((nI 0)) S_7)))))) dp x0 ((nI 1)) S)
def k_L_isReady_46 (Q : Int32 → cS → Prop) (dp : Nat) (mc ms : Nat)  (x0 : Nat) (cd dd : Nat) (S : cS) : Prop :=
k_L_isReady_47 Q dp mc ms  x0 ((nI 0)) cd dd S
def k_L_isReady_19 (Q : Int32 → cS → Prop) (dp : Nat) (mc ms : Nat)  (x0 : Nat) (t0 : Int32) (cd dd : Nat) (S : cS) : Prop :=
(cd ≤ mc ∧ dd ≤ ms) ∧ (k_L_types (fun S_5 => 
(cd ≤ mc ∧ dd ≤ ms) ∧ (k_L_types (fun S_6 => 
((t0 = 0 →
  k_L_isReady_46 Q dp mc ms  x0 cd dd S_6) ∧
 (¬ t0 = 0 →
  cA S_6 x0 11 ∧ ((∃ mc104 ms105 : Nat, cd + mc104 ≤ mc ∧ dd + ms105 ≤ ms ∧ (k_X11_synonym (fun r_106 S_106 => 
  ((¬ r_106 = ((nI 1)) →
    k_L_isReady_46 Q dp mc ms  x0 (cd + mc104) (dd + ms105) S_106) ∧
   (r_106 = ((nI 1)) →
    k_L_isReady_47 Q dp mc ms  x0 ((nI 1)) (cd + mc104) (dd + ms105) S_106))) dp mc104 ms105 x0 S_6)))))) dp x0 ((nI 4)) S_5)) dp x0 ((nI 2)) S)
def k_L_isReady (Q : Int32 → cS → Prop) (dp : Nat) (mc ms : Nat) (x0 : Nat) (S : cS) : Prop :=
(0 ≤ mc ∧ 0 ≤ ms) ∧ (k_L_types (fun S_1 => 
cA S_1 x0 11 ∧ ((∃ mc2 ms3 : Nat, 0 + mc2 ≤ mc ∧ 0 + ms3 ≤ ms ∧ (k_X11_stop (fun r_4 S_4 => 
((¬ r_4 = ((nI 1)) →
  k_L_isReady_19 Q dp mc ms  x0 ((nI 0)) (0 + mc2) (0 + ms3) S_4) ∧
 (r_4 = ((nI 1)) →
  k_L_isReady_19 Q dp mc ms  x0 ((nI 1)) (0 + mc2) (0 + ms3) S_4))) dp mc2 ms3 x0 S_1)))) dp x0 ((nI 7)) S)
def k_L_tokens_48 (Q : Int32 → cS → Prop) (dp : Nat) (R5 : Int64 → Int32 → Int32 → Int32 → cS → Prop) (x0 : Int64) (x2 : Int32) (x4 : Int32) (t0 : Int32) (t1 : Int32) (S : cS) : Prop :=
∀ x3_2 : Int32, x3_2 = (t1 + t0) → ∀ x4_3 : Int32, x4_3 = x4 + nI 1 → R5 x0 x2 x3_2 x4_3 S
def k_L_tokens_5 (Q : Int32 → cS → Prop) (dp : Nat) (R5 : Int64 → Int32 → Int32 → Int32 → cS → Prop) (x0 : Int64) (x2 : Int32) (x3 : Int32) (x4 : Int32) (S : cS) : Prop :=
((((nI 5)) ≤ x4 →
  Q x3 S) ∧
 (¬ ((nI 5)) ≤ x4 →
  k_L_word (fun r_1 S_1 => 
  ((r_1 = 0 →
    k_L_tokens_48 Q dp R5 x0 x2 x4 ((nI 0)) x3 S_1) ∧
   (¬ r_1 = 0 →
    ((¬ r_1 = ((nI 7)) →
      ((((nI 3)) ≤ r_1 →
        k_L_tokens_48 Q dp R5 x0 x2 x4 ((nI 1)) x3 S_1) ∧
       (¬ ((nI 3)) ≤ r_1 →
        k_L_tokens_48 Q dp R5 x0 x2 x4 ((nI 2)) x3 S_1))) ∧
     (r_1 = ((nI 7)) →
      k_L_tokens_48 Q dp R5 x0 x2 x4 ((nI 0)) x3 S_1))))) dp x0 x2 x4 S))
def k_L_tokens_5L (Q : Int32 → cS → Prop) (dp : Nat)  (x0 : Int64) (x2 : Int32) (x3 : Int32) (x4 : Int32) (S : cS) : Prop :=
  lfp (X := Int64 × Int32 × Int32 × Int32 × cS) (fun P y => k_L_tokens_5 Q dp  (fun b0 b1 b2 b3 S => P (b0, b1, b2, b3, S)) y.1 y.2.1 y.2.2.1 y.2.2.2.1 y.2.2.2.2) (x0, x2, x3, x4, S)
def k_L_tokens (Q : Int32 → cS → Prop) (dp : Nat) (x0 : Int64) (x2 : Int32) (S : cS) : Prop :=
k_L_tokens_5L Q dp  x0 x2 (((nI 0))) (((nI 0))) S
def k_L_isFound_143 (Q : Int32 → cS → Prop) (dp : Nat) (mc ms : Nat) (R92 : Nat → Nat → Nat → Int32 → Int32 → Nat → Nat → cS → Prop) (x0 : Nat) (x6 : Nat) (x7 : Nat) (x12 : Int32) (t0 : Int32) (cd dd : Nat) (S : cS) : Prop :=
∀ x12_8 : Int32, x12_8 = x12 + nI 1 → R92 x0 x6 x7 t0 x12_8 cd dd S
def k_L_isFound_142 (Q : Int32 → cS → Prop) (dp : Nat) (mc ms : Nat) (R92 : Nat → Nat → Nat → Int32 → Int32 → Nat → Nat → cS → Prop) (x0 : Nat) (x6 : Nat) (x7 : Nat) (x12 : Int32) (cd dd : Nat) (S : cS) : Prop :=
k_L_isFound_143 Q dp mc ms R92 x0 x6 x7 x12 ((nI 0)) cd dd S
def k_L_isFound_92 (Q : Int32 → cS → Prop) (dp : Nat) (mc ms : Nat) (R92 : Nat → Nat → Nat → Int32 → Int32 → Nat → Nat → cS → Prop) (x0 : Nat) (x6 : Nat) (x7 : Nat) (x11 : Int32) (x12 : Int32) (cd dd : Nat) (S : cS) : Prop :=
cX S x7 14 ((nI 14)) ∧ (((((cI S x7 ((nI 14)).toNatClampNeg)) ≤ x12 →
  (cd ≤ mc ∧ dd ≤ ms) ∧ (isZ x11 ∧ (Q x11 S))) ∧
 (¬ ((cI S x7 ((nI 14)).toNatClampNeg)) ≤ x12 →
  ((x11 = 0 →
    (cd ≤ mc ∧ dd ≤ ms) ∧ (isZ x11 ∧ (Q x11 S))) ∧
   (¬ x11 = 0 →
    cA S x0 11 ∧ ((cd ≤ mc ∧ dd ≤ ms) ∧ (k_X11_hitAt (fun r_7 S_7 => 
    cX S_7 x6 14 x12 ∧ (((¬ r_7 = ((cI S_7 x6 (x12).toNatClampNeg)) →
      k_L_isFound_142 Q dp mc ms R92 x0 x6 x7 x12 cd dd S_7) ∧
     (r_7 = ((cI S_7 x6 (x12).toNatClampNeg)) →
      cA S_7 x0 11 ∧ ((cd ≤ mc ∧ dd ≤ ms) ∧ (k_X11_rankAt (fun r_9 S_9 => 
      cX S_9 x6 14 ((((nI 20)) + x12)) ∧ (((¬ r_9 = ((cI S_9 x6 ((((nI 20)) + x12)).toNatClampNeg)) →
        k_L_isFound_142 Q dp mc ms R92 x0 x6 x7 x12 cd dd S_9) ∧
       (r_9 = ((cI S_9 x6 ((((nI 20)) + x12)).toNatClampNeg)) →
        k_L_isFound_143 Q dp mc ms R92 x0 x6 x7 x12 ((nI 1)) cd dd S_9)))) dp x0 x12 S_7)))))) dp x0 x12 S)))))))
def k_L_isFound_92L (Q : Int32 → cS → Prop) (dp : Nat) (mc ms : Nat)  (x0 : Nat) (x6 : Nat) (x7 : Nat) (x11 : Int32) (x12 : Int32) (cd dd : Nat) (S : cS) : Prop :=
  lfp (X := Nat × Nat × Nat × Int32 × Int32 × Nat × Nat × cS) (fun P y => k_L_isFound_92 Q dp mc ms  (fun b0 b1 b2 b3 b4 b5 b6 S => P (b0, b1, b2, b3, b4, b5, b6, S)) y.1 y.2.1 y.2.2.1 y.2.2.2.1 y.2.2.2.2.1 y.2.2.2.2.2.1 y.2.2.2.2.2.2.1 y.2.2.2.2.2.2.2) (x0, x6, x7, x11, x12, cd, dd, S)
def k_L_isFound_87 (Q : Int32 → cS → Prop) (dp : Nat) (mc ms : Nat)  (x0 : Nat) (x6 : Nat) (x7 : Nat) (t0 : Int32) (cd dd : Nat) (S : cS) : Prop :=
k_L_isFound_92L Q dp mc ms  x0 x6 x7 t0 (((nI 0))) cd dd S
def k_L_isFound_86 (Q : Int32 → cS → Prop) (dp : Nat) (mc ms : Nat)  (x0 : Nat) (x6 : Nat) (x7 : Nat) (cd dd : Nat) (S : cS) : Prop :=
k_L_isFound_87 Q dp mc ms  x0 x6 x7 ((nI 0)) cd dd S
def k_L_isFound (Q : Int32 → cS → Prop) (dp : Nat) (mc ms : Nat) (x0 : Nat) (x1 : Nat) (x2 : Nat) (x3 : Nat) (x4 : Nat) (x5 : Nat) (x6 : Nat) (x7 : Nat) (x8 : Int32) (S : cS) : Prop :=
∀ x9_1 : Int32, x9_1 = (x8 - x8 / ((nI 9)) * ((nI 9))) → ∀ x10_2 : Int32, x10_2 = (((nI 1)) + ((((x8 / ((nI 9)))) - ((x8 / ((nI 9)))) / ((nI 4)) * ((nI 4))))) → (∃ mc3 ms4 : Nat, 0 + mc3 ≤ mc ∧ 0 + ms4 ≤ ms ∧ (k_L_find (fun S_5 => 
cX S_5 x4 14 ((nI 0)) ∧ (cA S_5 x0 11 ∧ ((0 + mc3 ≤ mc ∧ 0 + ms4 ≤ ms) ∧ (k_X11_find (fun r_6 S_6 => 
cX S_6 x7 14 ((nI 14)) ∧ (((¬ r_6 = ((cI S_6 x7 ((nI 14)).toNatClampNeg)) →
  k_L_isFound_86 Q dp mc ms  x0 x6 x7 (0 + mc3) (0 + ms4) S_6) ∧
 (r_6 = ((cI S_6 x7 ((nI 14)).toNatClampNeg)) →
  cA S_6 x0 11 ∧ ((0 + mc3 ≤ mc ∧ 0 + ms4 ≤ ms) ∧ (k_X11_skipped (fun r_10 S_10 => 
  cX S_10 x7 14 ((nI 15)) ∧ (((¬ r_10 = ((cI S_10 x7 ((nI 15)).toNatClampNeg)) →
    k_L_isFound_86 Q dp mc ms  x0 x6 x7 (0 + mc3) (0 + ms4) S_10) ∧
   (r_10 = ((cI S_10 x7 ((nI 15)).toNatClampNeg)) →
    cA S_10 x0 11 ∧ ((0 + mc3 ≤ mc ∧ 0 + ms4 ≤ ms) ∧ (k_X11_cached (fun r_11 S_11 => 
    cX S_11 x7 14 ((nI 16)) ∧ (((¬ r_11 = ((cI S_11 x7 ((nI 16)).toNatClampNeg)) →
      k_L_isFound_86 Q dp mc ms  x0 x6 x7 (0 + mc3) (0 + ms4) S_11) ∧
     (r_11 = ((cI S_11 x7 ((nI 16)).toNatClampNeg)) →
      k_L_isFound_87 Q dp mc ms  x0 x6 x7 ((nI 1)) (0 + mc3) (0 + ms4) S_11)))) dp x0 S_10)))))) dp x0 S_6)))))) dp x0 ((((cI S_5 x4 ((nI 0)).toNatClampNeg)) - ((nI 1)))) x9_1 x10_2 S_5)))) dp mc3 ms4 x1 x2 x3 x4 x5 x6 x7 x9_1 x10_2 S))
def k_L_isPlain_444 (Q : Int32 → cS → Prop) (dp : Nat) (mc ms : Nat)  (x0 : Nat) (x4 : Nat) (x7 : Int32) (x8 : Int32) (x13 : Int32) (cd dd : Nat) (S : cS) : Prop :=
cX S x4 14 ((nI 0)) ∧ (cA S x0 11 ∧ ((cd ≤ mc ∧ dd ≤ ms) ∧ (k_X11_passages (fun r_12 S_12 => 
((0 < r_12 →
  (cd ≤ mc ∧ dd ≤ ms) ∧ (Q ((bI true)) S_12)) ∧
 (¬ 0 < r_12 →
  ((x13 < 0 →
    (cd ≤ mc ∧ dd ≤ ms) ∧ (Q ((bI true)) S_12)) ∧
   (¬ x13 < 0 →
    ((x7 = ((nI 1)) →
      (cd ≤ mc ∧ dd ≤ ms) ∧ (Q ((bI true)) S_12)) ∧
     (¬ x7 = ((nI 1)) →
      ((x7 = ((nI 5)) →
        (cd ≤ mc ∧ dd ≤ ms) ∧ (Q ((bI true)) S_12)) ∧
       (¬ x7 = ((nI 5)) →
        ((¬ x7 = ((nI 7)) →
          (cd ≤ mc ∧ dd ≤ ms) ∧ (Q ((bI false)) S_12)) ∧
         (x7 = ((nI 7)) →
          (cd ≤ mc ∧ dd ≤ ms) ∧ (Q ((bI true)) S_12)))))))))))) dp x0 ((((cI S x4 ((nI 0)).toNatClampNeg)) - ((nI 1)))) x7 x8 ((nI 0)) S)))
def k_L_isPlain_413 (Q : Int32 → cS → Prop) (dp : Nat) (mc ms : Nat)  (x0 : Nat) (x4 : Nat) (x7 : Int32) (x8 : Int32) (x11 : Int32) (x13 : Int32) (x15 : Int32) (t0 : Int32) (cd dd : Nat) (S : cS) : Prop :=
((t0 = 0 →
  (cd ≤ mc ∧ dd ≤ ms) ∧ (Q ((bI false)) S)) ∧
 (¬ t0 = 0 →
  ((x11 = 0 →
    k_L_isPlain_444 Q dp mc ms  x0 x4 x7 x8 x13 cd dd S) ∧
   (¬ x11 = 0 →
    cX S x4 14 ((nI 0)) ∧ (cA S x0 11 ∧ ((∃ mc13 ms14 : Nat, cd + mc13 ≤ mc ∧ dd + ms14 ≤ ms ∧ (k_X11_sortedAt (fun r_15 S_15 => 
    ((¬ r_15 = x15 →
      (cd + mc13 ≤ mc ∧ dd + ms14 ≤ ms) ∧ (Q ((bI false)) S_15)) ∧
     (r_15 = x15 →
      k_L_isPlain_444 Q dp mc ms  x0 x4 x7 x8 x13 (cd + mc13) (dd + ms14) S_15))) dp mc13 ms14 x0 ((((cI S x4 ((nI 0)).toNatClampNeg)) - ((nI 1)))) x7 ((nI 0)) ((nI 0)) S))))))))
def k_L_isPlain_412 (Q : Int32 → cS → Prop) (dp : Nat) (mc ms : Nat)  (x0 : Nat) (x4 : Nat) (x7 : Int32) (x8 : Int32) (x11 : Int32) (x13 : Int32) (x15 : Int32) (cd dd : Nat) (S : cS) : Prop :=
k_L_isPlain_413 Q dp mc ms  x0 x4 x7 x8 x11 x13 x15 ((nI 0)) cd dd S
def k_L_isPlain_370 (Q : Int32 → cS → Prop) (dp : Nat) (mc ms : Nat)  (x0 : Nat) (x4 : Nat) (x7 : Int32) (x8 : Int32) (x9 : Int32) (x11 : Int32) (x12 : Int32) (x13 : Int32) (x15 : Int32) (cd dd : Nat) (S : cS) : Prop :=
cX S x4 14 ((nI 0)) ∧ (cA S x0 11 ∧ ((∃ mc19 ms20 : Nat, cd + mc19 ≤ mc ∧ dd + ms20 ≤ ms ∧ (k_X11_facet (fun r_21 S_21 => 
((¬ r_21 = x12 →
  k_L_isPlain_412 Q dp mc ms  x0 x4 x7 x8 x11 x13 x15 (cd + mc19) (dd + ms20) S_21) ∧
 (r_21 = x12 →
  cX S_21 x4 14 ((nI 0)) ∧ (cA S_21 x0 11 ∧ ((cd + mc19 ≤ mc ∧ dd + ms20 ≤ ms) ∧ (k_X11_rankByScan (fun r_22 S_22 => 
  ((¬ r_22 = x13 →
    k_L_isPlain_412 Q dp mc ms  x0 x4 x7 x8 x11 x13 x15 (cd + mc19) (dd + ms20) S_22) ∧
   (r_22 = x13 →
    k_L_isPlain_413 Q dp mc ms  x0 x4 x7 x8 x11 x13 x15 ((nI 1)) (cd + mc19) (dd + ms20) S_22))) dp x0 ((((cI S_21 x4 ((nI 0)).toNatClampNeg)) - ((nI 1)))) x7 x8 S_21)))))) dp mc19 ms20 x0 ((((cI S x4 ((nI 0)).toNatClampNeg)) - ((nI 1)))) x7 x9 S))))
def k_L_isPlain_300 (Q : Int32 → cS → Prop) (dp : Nat) (mc ms : Nat) (R63 : Nat → Nat → Nat → Nat → Nat → Int32 → Nat → Int32 → Int32 → Int32 → Int32 → Int32 → Int32 → Int32 → Int32 → Int32 → Int32 → Nat → Nat → cS → Prop) (R84 : Nat → Nat → Nat → Nat → Nat → Int32 → Nat → Int32 → Int32 → Int32 → Int32 → Int32 → Int32 → Int32 → Int32 → Int32 → Int32 → Int32 → Int32 → Nat → Nat → cS → Prop) (x0 : Nat) (x1 : Nat) (x2 : Nat) (x3 : Nat) (x4 : Nat) (x5 : Int32) (x6 : Nat) (x7 : Int32) (x8 : Int32) (x9 : Int32) (x10 : Int32) (x11 : Int32) (x12 : Int32) (x13 : Int32) (x15 : Int32) (x16 : Int32) (x17 : Int32) (x18 : Int32) (t0 : Int32) (cd dd : Nat) (S : cS) : Prop :=
∀ x18_32 : Int32, x18_32 = x18 + nI 1 → R84 x0 x1 x2 x3 x4 x5 x6 x7 x8 x9 x10 x11 x12 x13 t0 x15 x16 x17 x18_32 cd dd S
def k_L_isPlain_298 (Q : Int32 → cS → Prop) (dp : Nat) (mc ms : Nat) (R63 : Nat → Nat → Nat → Nat → Nat → Int32 → Nat → Int32 → Int32 → Int32 → Int32 → Int32 → Int32 → Int32 → Int32 → Int32 → Int32 → Nat → Nat → cS → Prop) (R84 : Nat → Nat → Nat → Nat → Nat → Int32 → Nat → Int32 → Int32 → Int32 → Int32 → Int32 → Int32 → Int32 → Int32 → Int32 → Int32 → Int32 → Int32 → Nat → Nat → cS → Prop) (x0 : Nat) (x1 : Nat) (x2 : Nat) (x3 : Nat) (x4 : Nat) (x5 : Int32) (x6 : Nat) (x7 : Int32) (x8 : Int32) (x9 : Int32) (x10 : Int32) (x11 : Int32) (x12 : Int32) (x13 : Int32) (x14 : Int32) (x15 : Int32) (x16 : Int32) (x17 : Int32) (x18 : Int32) (cd dd : Nat) (S : cS) : Prop :=
k_L_isPlain_300 Q dp mc ms R63 R84 x0 x1 x2 x3 x4 x5 x6 x7 x8 x9 x10 x11 x12 x13 x15 x16 x17 x18 x14 cd dd S
def k_L_isPlain_274 (Q : Int32 → cS → Prop) (dp : Nat) (mc ms : Nat) (R63 : Nat → Nat → Nat → Nat → Nat → Int32 → Nat → Int32 → Int32 → Int32 → Int32 → Int32 → Int32 → Int32 → Int32 → Int32 → Int32 → Nat → Nat → cS → Prop) (R84 : Nat → Nat → Nat → Nat → Nat → Int32 → Nat → Int32 → Int32 → Int32 → Int32 → Int32 → Int32 → Int32 → Int32 → Int32 → Int32 → Int32 → Int32 → Nat → Nat → cS → Prop) (x0 : Nat) (x1 : Nat) (x2 : Nat) (x3 : Nat) (x4 : Nat) (x5 : Int32) (x6 : Nat) (x7 : Int32) (x8 : Int32) (x9 : Int32) (x10 : Int32) (x11 : Int32) (x12 : Int32) (x13 : Int32) (x14 : Int32) (x16 : Int32) (x17 : Int32) (x18 : Int32) (x22 : Int32) (x23 : Int32) (t0 : Int32) (cd dd : Nat) (S : cS) : Prop :=
((x22 ≤ 0 →
  k_L_isPlain_298 Q dp mc ms R63 R84 x0 x1 x2 x3 x4 x5 x6 x7 x8 x9 x10 x11 x12 x13 x14 t0 x16 x17 x18 cd dd S) ∧
 (¬ x22 ≤ 0 →
  ((x14 < 0 →
    k_L_isPlain_300 Q dp mc ms R63 R84 x0 x1 x2 x3 x4 x5 x6 x7 x8 x9 x10 x11 x12 x13 t0 x16 x17 x18 x23 cd dd S) ∧
   (¬ x14 < 0 →
    ((x14 ≤ x23 →
      k_L_isPlain_298 Q dp mc ms R63 R84 x0 x1 x2 x3 x4 x5 x6 x7 x8 x9 x10 x11 x12 x13 x14 t0 x16 x17 x18 cd dd S) ∧
     (¬ x14 ≤ x23 →
      k_L_isPlain_300 Q dp mc ms R63 R84 x0 x1 x2 x3 x4 x5 x6 x7 x8 x9 x10 x11 x12 x13 t0 x16 x17 x18 x23 cd dd S))))))
def k_L_isPlain_272 (Q : Int32 → cS → Prop) (dp : Nat) (mc ms : Nat) (R63 : Nat → Nat → Nat → Nat → Nat → Int32 → Nat → Int32 → Int32 → Int32 → Int32 → Int32 → Int32 → Int32 → Int32 → Int32 → Int32 → Nat → Nat → cS → Prop) (R84 : Nat → Nat → Nat → Nat → Nat → Int32 → Nat → Int32 → Int32 → Int32 → Int32 → Int32 → Int32 → Int32 → Int32 → Int32 → Int32 → Int32 → Int32 → Nat → Nat → cS → Prop) (x0 : Nat) (x1 : Nat) (x2 : Nat) (x3 : Nat) (x4 : Nat) (x5 : Int32) (x6 : Nat) (x7 : Int32) (x8 : Int32) (x9 : Int32) (x10 : Int32) (x11 : Int32) (x12 : Int32) (x13 : Int32) (x14 : Int32) (x15 : Int32) (x16 : Int32) (x17 : Int32) (x18 : Int32) (x22 : Int32) (x23 : Int32) (cd dd : Nat) (S : cS) : Prop :=
k_L_isPlain_274 Q dp mc ms R63 R84 x0 x1 x2 x3 x4 x5 x6 x7 x8 x9 x10 x11 x12 x13 x14 x16 x17 x18 x22 x23 x15 cd dd S
def k_L_isPlain_262 (Q : Int32 → cS → Prop) (dp : Nat) (mc ms : Nat) (R63 : Nat → Nat → Nat → Nat → Nat → Int32 → Nat → Int32 → Int32 → Int32 → Int32 → Int32 → Int32 → Int32 → Int32 → Int32 → Int32 → Nat → Nat → cS → Prop) (R84 : Nat → Nat → Nat → Nat → Nat → Int32 → Nat → Int32 → Int32 → Int32 → Int32 → Int32 → Int32 → Int32 → Int32 → Int32 → Int32 → Int32 → Int32 → Nat → Nat → cS → Prop) (x0 : Nat) (x1 : Nat) (x2 : Nat) (x3 : Nat) (x4 : Nat) (x5 : Int32) (x6 : Nat) (x7 : Int32) (x8 : Int32) (x9 : Int32) (x10 : Int32) (x11 : Int32) (x12 : Int32) (x13 : Int32) (x14 : Int32) (x16 : Int32) (x17 : Int32) (x18 : Int32) (x19 : Int64) (x22 : Int32) (x23 : Int32) (cd dd : Nat) (S : cS) : Prop :=
k_L_isPlain_274 Q dp mc ms R63 R84 x0 x1 x2 x3 x4 x5 x6 x7 x8 x9 x10 x11 x12 x13 x14 x16 x17 x18 x22 x23 (((x19 &&& 15).toInt32)) cd dd S
def k_L_isPlain_243 (Q : Int32 → cS → Prop) (dp : Nat) (mc ms : Nat) (R63 : Nat → Nat → Nat → Nat → Nat → Int32 → Nat → Int32 → Int32 → Int32 → Int32 → Int32 → Int32 → Int32 → Int32 → Int32 → Int32 → Nat → Nat → cS → Prop) (R84 : Nat → Nat → Nat → Nat → Nat → Int32 → Nat → Int32 → Int32 → Int32 → Int32 → Int32 → Int32 → Int32 → Int32 → Int32 → Int32 → Int32 → Int32 → Nat → Nat → cS → Prop) (x0 : Nat) (x1 : Nat) (x2 : Nat) (x3 : Nat) (x4 : Nat) (x5 : Int32) (x6 : Nat) (x7 : Int32) (x8 : Int32) (x9 : Int32) (x10 : Int32) (x11 : Int32) (x12 : Int32) (x14 : Int32) (x15 : Int32) (x16 : Int32) (x17 : Int32) (x18 : Int32) (x19 : Int64) (x22 : Int32) (x23 : Int32) (t0 : Int32) (cd dd : Nat) (S : cS) : Prop :=
((x22 ≤ 0 →
  k_L_isPlain_272 Q dp mc ms R63 R84 x0 x1 x2 x3 x4 x5 x6 x7 x8 x9 x10 x11 x12 t0 x14 x15 x16 x17 x18 x22 x23 cd dd S) ∧
 (¬ x22 ≤ 0 →
  ((x15 < 0 →
    k_L_isPlain_262 Q dp mc ms R63 R84 x0 x1 x2 x3 x4 x5 x6 x7 x8 x9 x10 x11 x12 t0 x14 x16 x17 x18 x19 x22 x23 cd dd S) ∧
   (¬ x15 < 0 →
    ((x14 ≤ x23 →
      k_L_isPlain_272 Q dp mc ms R63 R84 x0 x1 x2 x3 x4 x5 x6 x7 x8 x9 x10 x11 x12 t0 x14 x15 x16 x17 x18 x22 x23 cd dd S) ∧
     (¬ x14 ≤ x23 →
      k_L_isPlain_262 Q dp mc ms R63 R84 x0 x1 x2 x3 x4 x5 x6 x7 x8 x9 x10 x11 x12 t0 x14 x16 x17 x18 x19 x22 x23 cd dd S))))))
def k_L_isPlain_241 (Q : Int32 → cS → Prop) (dp : Nat) (mc ms : Nat) (R63 : Nat → Nat → Nat → Nat → Nat → Int32 → Nat → Int32 → Int32 → Int32 → Int32 → Int32 → Int32 → Int32 → Int32 → Int32 → Int32 → Nat → Nat → cS → Prop) (R84 : Nat → Nat → Nat → Nat → Nat → Int32 → Nat → Int32 → Int32 → Int32 → Int32 → Int32 → Int32 → Int32 → Int32 → Int32 → Int32 → Int32 → Int32 → Nat → Nat → cS → Prop) (x0 : Nat) (x1 : Nat) (x2 : Nat) (x3 : Nat) (x4 : Nat) (x5 : Int32) (x6 : Nat) (x7 : Int32) (x8 : Int32) (x9 : Int32) (x10 : Int32) (x11 : Int32) (x12 : Int32) (x13 : Int32) (x14 : Int32) (x15 : Int32) (x16 : Int32) (x17 : Int32) (x18 : Int32) (x19 : Int64) (x22 : Int32) (x23 : Int32) (cd dd : Nat) (S : cS) : Prop :=
k_L_isPlain_243 Q dp mc ms R63 R84 x0 x1 x2 x3 x4 x5 x6 x7 x8 x9 x10 x11 x12 x14 x15 x16 x17 x18 x19 x22 x23 x13 cd dd S
def k_L_isPlain_215 (Q : Int32 → cS → Prop) (dp : Nat) (mc ms : Nat) (R63 : Nat → Nat → Nat → Nat → Nat → Int32 → Nat → Int32 → Int32 → Int32 → Int32 → Int32 → Int32 → Int32 → Int32 → Int32 → Int32 → Nat → Nat → cS → Prop) (R84 : Nat → Nat → Nat → Nat → Nat → Int32 → Nat → Int32 → Int32 → Int32 → Int32 → Int32 → Int32 → Int32 → Int32 → Int32 → Int32 → Int32 → Int32 → Nat → Nat → cS → Prop) (x0 : Nat) (x1 : Nat) (x2 : Nat) (x3 : Nat) (x4 : Nat) (x5 : Int32) (x6 : Nat) (x7 : Int32) (x8 : Int32) (x9 : Int32) (x10 : Int32) (x11 : Int32) (x13 : Int32) (x14 : Int32) (x15 : Int32) (x16 : Int32) (x17 : Int32) (x18 : Int32) (x19 : Int64) (x22 : Int32) (x23 : Int32) (t0 : Int32) (t1 : Int32) (cd dd : Nat) (S : cS) : Prop :=
∀ x12_31 : Int32, x12_31 = (t1 + t0) → ((x22 ≤ 0 →
  k_L_isPlain_241 Q dp mc ms R63 R84 x0 x1 x2 x3 x4 x5 x6 x7 x8 x9 x10 x11 x12_31 x13 x14 x15 x16 x17 x18 x19 x22 x23 cd dd S) ∧
 (¬ x22 ≤ 0 →
  ((¬ (x19 &&& 15) = ((x8).toInt64) →
    k_L_isPlain_241 Q dp mc ms R63 R84 x0 x1 x2 x3 x4 x5 x6 x7 x8 x9 x10 x11 x12_31 x13 x14 x15 x16 x17 x18 x19 x22 x23 cd dd S) ∧
   ((x19 &&& 15) = ((x8).toInt64) →
    k_L_isPlain_243 Q dp mc ms R63 R84 x0 x1 x2 x3 x4 x5 x6 x7 x8 x9 x10 x11 x12_31 x14 x15 x16 x17 x18 x19 x22 x23 x22 cd dd S))))
def k_L_isPlain_214 (Q : Int32 → cS → Prop) (dp : Nat) (mc ms : Nat) (R63 : Nat → Nat → Nat → Nat → Nat → Int32 → Nat → Int32 → Int32 → Int32 → Int32 → Int32 → Int32 → Int32 → Int32 → Int32 → Int32 → Nat → Nat → cS → Prop) (R84 : Nat → Nat → Nat → Nat → Nat → Int32 → Nat → Int32 → Int32 → Int32 → Int32 → Int32 → Int32 → Int32 → Int32 → Int32 → Int32 → Int32 → Int32 → Nat → Nat → cS → Prop) (x0 : Nat) (x1 : Nat) (x2 : Nat) (x3 : Nat) (x4 : Nat) (x5 : Int32) (x6 : Nat) (x7 : Int32) (x8 : Int32) (x9 : Int32) (x10 : Int32) (x11 : Int32) (x13 : Int32) (x14 : Int32) (x15 : Int32) (x16 : Int32) (x17 : Int32) (x18 : Int32) (x19 : Int64) (x22 : Int32) (x23 : Int32) (t0 : Int32) (cd dd : Nat) (S : cS) : Prop :=
k_L_isPlain_215 Q dp mc ms R63 R84 x0 x1 x2 x3 x4 x5 x6 x7 x8 x9 x10 x11 x13 x14 x15 x16 x17 x18 x19 x22 x23 ((nI 0)) t0 cd dd S
def k_L_isPlain_184 (Q : Int32 → cS → Prop) (dp : Nat) (mc ms : Nat) (R63 : Nat → Nat → Nat → Nat → Nat → Int32 → Nat → Int32 → Int32 → Int32 → Int32 → Int32 → Int32 → Int32 → Int32 → Int32 → Int32 → Nat → Nat → cS → Prop) (R84 : Nat → Nat → Nat → Nat → Nat → Int32 → Nat → Int32 → Int32 → Int32 → Int32 → Int32 → Int32 → Int32 → Int32 → Int32 → Int32 → Int32 → Int32 → Nat → Nat → cS → Prop) (x0 : Nat) (x1 : Nat) (x2 : Nat) (x3 : Nat) (x4 : Nat) (x5 : Int32) (x6 : Nat) (x7 : Int32) (x8 : Int32) (x9 : Int32) (x10 : Int32) (x12 : Int32) (x13 : Int32) (x14 : Int32) (x15 : Int32) (x16 : Int32) (x17 : Int32) (x18 : Int32) (x19 : Int64) (x22 : Int32) (x23 : Int32) (t0 : Int32) (t1 : Int32) (cd dd : Nat) (S : cS) : Prop :=
∀ x11_30 : Int32, x11_30 = (t1 + t0) → ((x22 ≤ 0 →
  k_L_isPlain_214 Q dp mc ms R63 R84 x0 x1 x2 x3 x4 x5 x6 x7 x8 x9 x10 x11_30 x13 x14 x15 x16 x17 x18 x19 x22 x23 x12 cd dd S) ∧
 (¬ x22 ≤ 0 →
  ((¬ ((jUs x19 ((nI 44))) &&& 15) = ((x9).toInt64) →
    k_L_isPlain_214 Q dp mc ms R63 R84 x0 x1 x2 x3 x4 x5 x6 x7 x8 x9 x10 x11_30 x13 x14 x15 x16 x17 x18 x19 x22 x23 x12 cd dd S) ∧
   (((jUs x19 ((nI 44))) &&& 15) = ((x9).toInt64) →
    k_L_isPlain_215 Q dp mc ms R63 R84 x0 x1 x2 x3 x4 x5 x6 x7 x8 x9 x10 x11_30 x13 x14 x15 x16 x17 x18 x19 x22 x23 ((nI 1)) x12 cd dd S))))
def k_L_isPlain_169 (Q : Int32 → cS → Prop) (dp : Nat) (mc ms : Nat) (R63 : Nat → Nat → Nat → Nat → Nat → Int32 → Nat → Int32 → Int32 → Int32 → Int32 → Int32 → Int32 → Int32 → Int32 → Int32 → Int32 → Nat → Nat → cS → Prop) (R84 : Nat → Nat → Nat → Nat → Nat → Int32 → Nat → Int32 → Int32 → Int32 → Int32 → Int32 → Int32 → Int32 → Int32 → Int32 → Int32 → Int32 → Int32 → Nat → Nat → cS → Prop) (x0 : Nat) (x1 : Nat) (x2 : Nat) (x3 : Nat) (x4 : Nat) (x5 : Int32) (x6 : Nat) (x7 : Int32) (x8 : Int32) (x9 : Int32) (x11 : Int32) (x12 : Int32) (x13 : Int32) (x14 : Int32) (x15 : Int32) (x16 : Int32) (x17 : Int32) (x18 : Int32) (x19 : Int64) (x22 : Int32) (x23 : Int32) (t0 : Int32) (t1 : Int32) (cd dd : Nat) (S : cS) : Prop :=
∀ x10_29 : Int32, x10_29 = (t1 + t0) → ((x22 ≤ 0 →
  k_L_isPlain_184 Q dp mc ms R63 R84 x0 x1 x2 x3 x4 x5 x6 x7 x8 x9 x10_29 x12 x13 x14 x15 x16 x17 x18 x19 x22 x23 ((nI 0)) x11 cd dd S) ∧
 (¬ x22 ≤ 0 →
  k_L_isPlain_184 Q dp mc ms R63 R84 x0 x1 x2 x3 x4 x5 x6 x7 x8 x9 x10_29 x12 x13 x14 x15 x16 x17 x18 x19 x22 x23 ((nI 1)) x11 cd dd S))
def k_L_isPlain_147 (Q : Int32 → cS → Prop) (dp : Nat) (mc ms : Nat) (R63 : Nat → Nat → Nat → Nat → Nat → Int32 → Nat → Int32 → Int32 → Int32 → Int32 → Int32 → Int32 → Int32 → Int32 → Int32 → Int32 → Nat → Nat → cS → Prop) (R84 : Nat → Nat → Nat → Nat → Nat → Int32 → Nat → Int32 → Int32 → Int32 → Int32 → Int32 → Int32 → Int32 → Int32 → Int32 → Int32 → Int32 → Int32 → Nat → Nat → cS → Prop) (x0 : Nat) (x1 : Nat) (x2 : Nat) (x3 : Nat) (x4 : Nat) (x5 : Int32) (x6 : Nat) (x7 : Int32) (x8 : Int32) (x9 : Int32) (x10 : Int32) (x11 : Int32) (x12 : Int32) (x13 : Int32) (x14 : Int32) (x15 : Int32) (x16 : Int32) (x17 : Int32) (x18 : Int32) (x19 : Int64) (x21 : Int32) (t0 : Int32) (cd dd : Nat) (S : cS) : Prop :=
∀ x23_28 : Int32, x23_28 = ((jUs x19 ((nI 48))).toInt32) → ((x21 = 0 →
  k_L_isPlain_169 Q dp mc ms R63 R84 x0 x1 x2 x3 x4 x5 x6 x7 x8 x9 x11 x12 x13 x14 x15 x16 x17 x18 x19 t0 x23_28 ((nI 0)) x10 cd dd S) ∧
 (¬ x21 = 0 →
  k_L_isPlain_169 Q dp mc ms R63 R84 x0 x1 x2 x3 x4 x5 x6 x7 x8 x9 x11 x12 x13 x14 x15 x16 x17 x18 x19 t0 x23_28 ((nI 1)) x10 cd dd S))
def k_L_isPlain_127 (Q : Int32 → cS → Prop) (dp : Nat) (mc ms : Nat) (R63 : Nat → Nat → Nat → Nat → Nat → Int32 → Nat → Int32 → Int32 → Int32 → Int32 → Int32 → Int32 → Int32 → Int32 → Int32 → Int32 → Nat → Nat → cS → Prop) (R84 : Nat → Nat → Nat → Nat → Nat → Int32 → Nat → Int32 → Int32 → Int32 → Int32 → Int32 → Int32 → Int32 → Int32 → Int32 → Int32 → Int32 → Int32 → Nat → Nat → cS → Prop) (x0 : Nat) (x1 : Nat) (x2 : Nat) (x3 : Nat) (x4 : Nat) (x5 : Int32) (x6 : Nat) (x7 : Int32) (x8 : Int32) (x9 : Int32) (x10 : Int32) (x11 : Int32) (x12 : Int32) (x13 : Int32) (x14 : Int32) (x15 : Int32) (x16 : Int32) (x17 : Int32) (x18 : Int32) (x19 : Int64) (t0 : Int32) (cd dd : Nat) (S : cS) : Prop :=
((t0 = 0 →
  k_L_isPlain_147 Q dp mc ms R63 R84 x0 x1 x2 x3 x4 x5 x6 x7 x8 x9 x10 x11 x12 x13 x14 x15 x16 x17 x18 x19 t0 ((nI 0)) cd dd S) ∧
 (¬ t0 = 0 →
  (cd ≤ mc ∧ dd ≤ ms) ∧ (k_L_rank (fun r_33 S_33 => 
  k_L_isPlain_147 Q dp mc ms R63 R84 x0 x1 x2 x3 x4 x5 x6 x7 x8 x9 x10 x11 x12 x13 x14 x15 x16 x17 x18 x19 t0 r_33 cd dd S_33) dp x19 x7 x6 S)))
def k_L_isPlain_84 (Q : Int32 → cS → Prop) (dp : Nat) (mc ms : Nat) (R63 : Nat → Nat → Nat → Nat → Nat → Int32 → Nat → Int32 → Int32 → Int32 → Int32 → Int32 → Int32 → Int32 → Int32 → Int32 → Int32 → Nat → Nat → cS → Prop) (R84 : Nat → Nat → Nat → Nat → Nat → Int32 → Nat → Int32 → Int32 → Int32 → Int32 → Int32 → Int32 → Int32 → Int32 → Int32 → Int32 → Int32 → Int32 → Nat → Nat → cS → Prop) (x0 : Nat) (x1 : Nat) (x2 : Nat) (x3 : Nat) (x4 : Nat) (x5 : Int32) (x6 : Nat) (x7 : Int32) (x8 : Int32) (x9 : Int32) (x10 : Int32) (x11 : Int32) (x12 : Int32) (x13 : Int32) (x14 : Int32) (x15 : Int32) (x16 : Int32) (x17 : Int32) (x18 : Int32) (cd dd : Nat) (S : cS) : Prop :=
cX S x3 14 x17 ∧ (((((cI S x3 (x17).toNatClampNeg)) ≤ x18 →
  ∀ x16_25 : Int32, x16_25 = x16 + nI 1 → R63 x0 x1 x2 x3 x4 x5 x6 x7 x8 x9 x10 x11 x12 x13 x14 x15 x16_25 cd dd S) ∧
 (¬ ((cI S x3 (x17).toNatClampNeg)) ≤ x18 →
  (cd ≤ mc ∧ dd ≤ ms) ∧ (k_L_record (fun r_26 S_26 => 
  cX S_26 x1 15 r_26 ∧ (∀ x19_27 : Int64, x19_27 = cJ S_26 x1 (r_26).toNatClampNeg → cX S_26 x4 14 ((((nI 32)) + x17)) ∧ (((¬ ((((((cI S_26 x4 ((((nI 32)) + x17)).toNatClampNeg)) >>> (x18 &&& 31))) &&& ((nI 1)))) = ((nI 1)) →
    k_L_isPlain_127 Q dp mc ms R63 R84 x0 x1 x2 x3 x4 x5 x6 x7 x8 x9 x10 x11 x12 x13 x14 x15 x16 x17 x18 x19_27 ((nI 0)) cd dd S_26) ∧
   (((((((cI S_26 x4 ((((nI 32)) + x17)).toNatClampNeg)) >>> (x18 &&& 31))) &&& ((nI 1)))) = ((nI 1)) →
    k_L_isPlain_127 Q dp mc ms R63 R84 x0 x1 x2 x3 x4 x5 x6 x7 x8 x9 x10 x11 x12 x13 x14 x15 x16 x17 x18 x19_27 ((nI 1)) cd dd S_26))))) dp x2 x17 x18 S))))
def k_L_isPlain_84L (Q : Int32 → cS → Prop) (dp : Nat) (mc ms : Nat) (R63 : Nat → Nat → Nat → Nat → Nat → Int32 → Nat → Int32 → Int32 → Int32 → Int32 → Int32 → Int32 → Int32 → Int32 → Int32 → Int32 → Nat → Nat → cS → Prop) (x0 : Nat) (x1 : Nat) (x2 : Nat) (x3 : Nat) (x4 : Nat) (x5 : Int32) (x6 : Nat) (x7 : Int32) (x8 : Int32) (x9 : Int32) (x10 : Int32) (x11 : Int32) (x12 : Int32) (x13 : Int32) (x14 : Int32) (x15 : Int32) (x16 : Int32) (x17 : Int32) (x18 : Int32) (cd dd : Nat) (S : cS) : Prop :=
  lfp (X := Nat × Nat × Nat × Nat × Nat × Int32 × Nat × Int32 × Int32 × Int32 × Int32 × Int32 × Int32 × Int32 × Int32 × Int32 × Int32 × Int32 × Int32 × Nat × Nat × cS) (fun P y => k_L_isPlain_84 Q dp mc ms R63 (fun b0 b1 b2 b3 b4 b5 b6 b7 b8 b9 b10 b11 b12 b13 b14 b15 b16 b17 b18 b19 b20 S => P (b0, b1, b2, b3, b4, b5, b6, b7, b8, b9, b10, b11, b12, b13, b14, b15, b16, b17, b18, b19, b20, S)) y.1 y.2.1 y.2.2.1 y.2.2.2.1 y.2.2.2.2.1 y.2.2.2.2.2.1 y.2.2.2.2.2.2.1 y.2.2.2.2.2.2.2.1 y.2.2.2.2.2.2.2.2.1 y.2.2.2.2.2.2.2.2.2.1 y.2.2.2.2.2.2.2.2.2.2.1 y.2.2.2.2.2.2.2.2.2.2.2.1 y.2.2.2.2.2.2.2.2.2.2.2.2.1 y.2.2.2.2.2.2.2.2.2.2.2.2.2.1 y.2.2.2.2.2.2.2.2.2.2.2.2.2.2.1 y.2.2.2.2.2.2.2.2.2.2.2.2.2.2.2.1 y.2.2.2.2.2.2.2.2.2.2.2.2.2.2.2.2.1 y.2.2.2.2.2.2.2.2.2.2.2.2.2.2.2.2.2.1 y.2.2.2.2.2.2.2.2.2.2.2.2.2.2.2.2.2.2.1 y.2.2.2.2.2.2.2.2.2.2.2.2.2.2.2.2.2.2.2.1 y.2.2.2.2.2.2.2.2.2.2.2.2.2.2.2.2.2.2.2.2.1 y.2.2.2.2.2.2.2.2.2.2.2.2.2.2.2.2.2.2.2.2.2) (x0, x1, x2, x3, x4, x5, x6, x7, x8, x9, x10, x11, x12, x13, x14, x15, x16, x17, x18, cd, dd, S)
def k_L_isPlain_63 (Q : Int32 → cS → Prop) (dp : Nat) (mc ms : Nat) (R63 : Nat → Nat → Nat → Nat → Nat → Int32 → Nat → Int32 → Int32 → Int32 → Int32 → Int32 → Int32 → Int32 → Int32 → Int32 → Int32 → Nat → Nat → cS → Prop) (x0 : Nat) (x1 : Nat) (x2 : Nat) (x3 : Nat) (x4 : Nat) (x5 : Int32) (x6 : Nat) (x7 : Int32) (x8 : Int32) (x9 : Int32) (x10 : Int32) (x11 : Int32) (x12 : Int32) (x13 : Int32) (x14 : Int32) (x15 : Int32) (x16 : Int32) (cd dd : Nat) (S : cS) : Prop :=
cX S x4 14 ((nI 1)) ∧ (((((cI S x4 ((nI 1)).toNatClampNeg)) ≤ x16 →
  cX S x4 14 ((nI 0)) ∧ (cA S x0 11 ∧ ((cd ≤ mc ∧ dd ≤ ms) ∧ (k_X11_documents (fun r_11 S_11 => 
  ((¬ r_11 = x10 →
    k_L_isPlain_412 Q dp mc ms  x0 x4 x7 x8 x11 x13 x15 cd dd S_11) ∧
   (r_11 = x10 →
    cX S_11 x4 14 ((nI 0)) ∧ (cA S_11 x0 11 ∧ ((∃ mc16 ms17 : Nat, cd + mc16 ≤ mc ∧ dd + ms17 ≤ ms ∧ (k_X11_matches (fun r_18 S_18 => 
    ((¬ r_18 = x11 →
      k_L_isPlain_412 Q dp mc ms  x0 x4 x7 x8 x11 x13 x15 (cd + mc16) (dd + ms17) S_18) ∧
     (r_18 = x11 →
      ((0 < ((x5 - x5 / ((nI 4)) * ((nI 4)))) →
        k_L_isPlain_370 Q dp mc ms  x0 x4 x7 x8 x9 x11 x12 x13 x15 (cd + mc16) (dd + ms17) S_18) ∧
       (¬ 0 < ((x5 - x5 / ((nI 4)) * ((nI 4)))) →
        cX S_18 x4 14 ((nI 0)) ∧ (cA S_18 x0 11 ∧ ((cd + mc16 ≤ mc ∧ dd + ms17 ≤ ms) ∧ (k_X11_matchesByScan (fun r_23 S_23 => 
        ((¬ r_23 = x11 →
          k_L_isPlain_412 Q dp mc ms  x0 x4 x7 x8 x11 x13 x15 (cd + mc16) (dd + ms17) S_23) ∧
         (r_23 = x11 →
          k_L_isPlain_370 Q dp mc ms  x0 x4 x7 x8 x9 x11 x12 x13 x15 (cd + mc16) (dd + ms17) S_23))) dp x0 ((((cI S_18 x4 ((nI 0)).toNatClampNeg)) - ((nI 1)))) x7 S_18)))))))) dp mc16 ms17 x0 ((((cI S_11 x4 ((nI 0)).toNatClampNeg)) - ((nI 1)))) x7 S_11))))))) dp x0 ((((cI S x4 ((nI 0)).toNatClampNeg)) - ((nI 1)))) S)))) ∧
 (¬ ((cI S x4 ((nI 1)).toNatClampNeg)) ≤ x16 →
  cX S x4 14 ((((nI 2)) + x16)) ∧ (∀ x17_24 : Int32, x17_24 = (cI S x4 ((((nI 2)) + x16)).toNatClampNeg) → k_L_isPlain_84L Q dp mc ms R63 x0 x1 x2 x3 x4 x5 x6 x7 x8 x9 x10 x11 x12 x13 x14 x15 x16 x17_24 (((nI 0))) cd dd S))))
def k_L_isPlain_63L (Q : Int32 → cS → Prop) (dp : Nat) (mc ms : Nat)  (x0 : Nat) (x1 : Nat) (x2 : Nat) (x3 : Nat) (x4 : Nat) (x5 : Int32) (x6 : Nat) (x7 : Int32) (x8 : Int32) (x9 : Int32) (x10 : Int32) (x11 : Int32) (x12 : Int32) (x13 : Int32) (x14 : Int32) (x15 : Int32) (x16 : Int32) (cd dd : Nat) (S : cS) : Prop :=
  lfp (X := Nat × Nat × Nat × Nat × Nat × Int32 × Nat × Int32 × Int32 × Int32 × Int32 × Int32 × Int32 × Int32 × Int32 × Int32 × Int32 × Nat × Nat × cS) (fun P y => k_L_isPlain_63 Q dp mc ms  (fun b0 b1 b2 b3 b4 b5 b6 b7 b8 b9 b10 b11 b12 b13 b14 b15 b16 b17 b18 S => P (b0, b1, b2, b3, b4, b5, b6, b7, b8, b9, b10, b11, b12, b13, b14, b15, b16, b17, b18, S)) y.1 y.2.1 y.2.2.1 y.2.2.2.1 y.2.2.2.2.1 y.2.2.2.2.2.1 y.2.2.2.2.2.2.1 y.2.2.2.2.2.2.2.1 y.2.2.2.2.2.2.2.2.1 y.2.2.2.2.2.2.2.2.2.1 y.2.2.2.2.2.2.2.2.2.2.1 y.2.2.2.2.2.2.2.2.2.2.2.1 y.2.2.2.2.2.2.2.2.2.2.2.2.1 y.2.2.2.2.2.2.2.2.2.2.2.2.2.1 y.2.2.2.2.2.2.2.2.2.2.2.2.2.2.1 y.2.2.2.2.2.2.2.2.2.2.2.2.2.2.2.1 y.2.2.2.2.2.2.2.2.2.2.2.2.2.2.2.2.1 y.2.2.2.2.2.2.2.2.2.2.2.2.2.2.2.2.2.1 y.2.2.2.2.2.2.2.2.2.2.2.2.2.2.2.2.2.2.1 y.2.2.2.2.2.2.2.2.2.2.2.2.2.2.2.2.2.2.2) (x0, x1, x2, x3, x4, x5, x6, x7, x8, x9, x10, x11, x12, x13, x14, x15, x16, cd, dd, S)
def k_L_isPlain (Q : Int32 → cS → Prop) (dp : Nat) (mc ms : Nat) (x0 : Nat) (x1 : Nat) (x2 : Nat) (x3 : Nat) (x4 : Nat) (x5 : Int32) (S : cS) : Prop :=
(∃ n1 : Nat, (nI 9) = nI n1 ∧ n1 < 2 ^ 20 ∧ 0 + 1 ≤ mc ∧ 0 + n1 ≤ ms ∧ (∀ q2 : Nat, q2 ∉ cL S → ∀ S3 : cS, S3 = cNewA S q2 14 n1 → ∀ x7_4 : Int32, x7_4 = (x5 - x5 / ((nI 9)) * ((nI 9))) → ∀ x8_5 : Int32, x8_5 = (((x5 / ((nI 9)))) - ((x5 / ((nI 9)))) / ((nI 10)) * ((nI 10))) → ∀ x9_6 : Int32, x9_6 = (((x5 / ((nI 90)))) - ((x5 / ((nI 90)))) / ((nI 3)) * ((nI 3))) → (0 + 1 ≤ mc ∧ 0 + n1 ≤ ms) ∧ (k_L_gains (fun S_7 => 
∀ x13_8 : Int32, x13_8 = ((-1)) → ∀ x14_9 : Int32, x14_9 = ((-1)) → ∀ x15_10 : Int32, x15_10 = ((-1)) → k_L_isPlain_63L Q dp mc ms  x0 x1 x2 x3 x4 x5 q2 x7_4 x8_5 x9_6 (((nI 0))) (((nI 0))) (((nI 0))) x13_8 x14_9 x15_10 (((nI 0))) (0 + 1) (0 + n1) S_7) dp x1 x2 x3 x4 q2 S3)))
def k_L_isIndex_256 (Q : Int32 → cS → Prop) (dp : Nat) (mc ms : Nat) (R139 : Nat → Nat → Nat → Nat → Nat → Nat → Nat → Int32 → Int32 → Nat → Nat → cS → Prop) (x0 : Nat) (x1 : Nat) (x2 : Nat) (x3 : Nat) (x4 : Nat) (x5 : Nat) (x10 : Nat) (x11 : Int32) (x12 : Int32) (cd dd : Nat) (S : cS) : Prop :=
∀ x12_3 : Int32, x12_3 = x12 + nI 1 → R139 x0 x1 x2 x3 x4 x5 x10 x11 x12_3 cd dd S
def k_L_isIndex_248 (Q : Int32 → cS → Prop) (dp : Nat) (mc ms : Nat) (R139 : Nat → Nat → Nat → Nat → Nat → Nat → Nat → Int32 → Int32 → Nat → Nat → cS → Prop) (R197 : Nat → Nat → Nat → Nat → Nat → Nat → Nat → Int32 → Int32 → Int32 → Nat → Nat → cS → Prop) (x0 : Nat) (x1 : Nat) (x2 : Nat) (x3 : Nat) (x4 : Nat) (x5 : Nat) (x10 : Nat) (x12 : Int32) (x13 : Int32) (t0 : Int32) (cd dd : Nat) (S : cS) : Prop :=
∀ x13_6 : Int32, x13_6 = x13 + nI 1 → R197 x0 x1 x2 x3 x4 x5 x10 t0 x12 x13_6 cd dd S
def k_L_isIndex_197 (Q : Int32 → cS → Prop) (dp : Nat) (mc ms : Nat) (R139 : Nat → Nat → Nat → Nat → Nat → Nat → Nat → Int32 → Int32 → Nat → Nat → cS → Prop) (R197 : Nat → Nat → Nat → Nat → Nat → Nat → Nat → Int32 → Int32 → Int32 → Nat → Nat → cS → Prop) (x0 : Nat) (x1 : Nat) (x2 : Nat) (x3 : Nat) (x4 : Nat) (x5 : Nat) (x10 : Nat) (x11 : Int32) (x12 : Int32) (x13 : Int32) (cd dd : Nat) (S : cS) : Prop :=
cX S x5 14 x12 ∧ (cX S x3 14 ((cI S x5 (x12).toNatClampNeg)) ∧ (((((cI S x3 ((cI S x5 (x12).toNatClampNeg)).toNatClampNeg)) ≤ x13 →
  k_L_isIndex_256 Q dp mc ms R139 x0 x1 x2 x3 x4 x5 x10 x11 x12 cd dd S) ∧
 (¬ ((cI S x3 ((cI S x5 (x12).toNatClampNeg)).toNatClampNeg)) ≤ x13 →
  ((x11 = 0 →
    k_L_isIndex_256 Q dp mc ms R139 x0 x1 x2 x3 x4 x5 x10 x11 x12 cd dd S) ∧
   (¬ x11 = 0 →
    cA S x0 11 ∧ ((cd ≤ mc ∧ dd ≤ ms) ∧ (k_X11_keyAt (fun r_4 S_4 => 
    cX S_4 x5 14 x12 ∧ ((cd ≤ mc ∧ dd ≤ ms) ∧ (k_L_record (fun r_5 S_5 => 
    cX S_5 x1 15 r_5 ∧ (((¬ r_4 = ((((cJ S_5 x1 (r_5).toNatClampNeg) &&& 15).toInt32)) →
      k_L_isIndex_248 Q dp mc ms R139 R197 x0 x1 x2 x3 x4 x5 x10 x12 x13 ((nI 0)) cd dd S_5) ∧
     (r_4 = ((((cJ S_5 x1 (r_5).toNatClampNeg) &&& 15).toInt32)) →
      k_L_isIndex_248 Q dp mc ms R139 R197 x0 x1 x2 x3 x4 x5 x10 x12 x13 ((nI 1)) cd dd S_5)))) dp x2 ((cI S_4 x5 (x12).toNatClampNeg)) x13 S_4))) dp x0 x12 x13 S))))))))
def k_L_isIndex_197L (Q : Int32 → cS → Prop) (dp : Nat) (mc ms : Nat) (R139 : Nat → Nat → Nat → Nat → Nat → Nat → Nat → Int32 → Int32 → Nat → Nat → cS → Prop) (x0 : Nat) (x1 : Nat) (x2 : Nat) (x3 : Nat) (x4 : Nat) (x5 : Nat) (x10 : Nat) (x11 : Int32) (x12 : Int32) (x13 : Int32) (cd dd : Nat) (S : cS) : Prop :=
  lfp (X := Nat × Nat × Nat × Nat × Nat × Nat × Nat × Int32 × Int32 × Int32 × Nat × Nat × cS) (fun P y => k_L_isIndex_197 Q dp mc ms R139 (fun b0 b1 b2 b3 b4 b5 b6 b7 b8 b9 b10 b11 S => P (b0, b1, b2, b3, b4, b5, b6, b7, b8, b9, b10, b11, S)) y.1 y.2.1 y.2.2.1 y.2.2.2.1 y.2.2.2.2.1 y.2.2.2.2.2.1 y.2.2.2.2.2.2.1 y.2.2.2.2.2.2.2.1 y.2.2.2.2.2.2.2.2.1 y.2.2.2.2.2.2.2.2.2.1 y.2.2.2.2.2.2.2.2.2.2.1 y.2.2.2.2.2.2.2.2.2.2.2.1 y.2.2.2.2.2.2.2.2.2.2.2.2) (x0, x1, x2, x3, x4, x5, x10, x11, x12, x13, cd, dd, S)
def k_L_isIndex_192 (Q : Int32 → cS → Prop) (dp : Nat) (mc ms : Nat) (R139 : Nat → Nat → Nat → Nat → Nat → Nat → Nat → Int32 → Int32 → Nat → Nat → cS → Prop) (x0 : Nat) (x1 : Nat) (x2 : Nat) (x3 : Nat) (x4 : Nat) (x5 : Nat) (x10 : Nat) (x12 : Int32) (t0 : Int32) (cd dd : Nat) (S : cS) : Prop :=
k_L_isIndex_197L Q dp mc ms R139 x0 x1 x2 x3 x4 x5 x10 t0 x12 (((nI 0))) cd dd S
def k_L_isIndex_191 (Q : Int32 → cS → Prop) (dp : Nat) (mc ms : Nat) (R139 : Nat → Nat → Nat → Nat → Nat → Nat → Nat → Int32 → Int32 → Nat → Nat → cS → Prop) (x0 : Nat) (x1 : Nat) (x2 : Nat) (x3 : Nat) (x4 : Nat) (x5 : Nat) (x10 : Nat) (x12 : Int32) (cd dd : Nat) (S : cS) : Prop :=
k_L_isIndex_192 Q dp mc ms R139 x0 x1 x2 x3 x4 x5 x10 x12 ((nI 0)) cd dd S
def k_L_isIndex_139 (Q : Int32 → cS → Prop) (dp : Nat) (mc ms : Nat) (R139 : Nat → Nat → Nat → Nat → Nat → Nat → Nat → Int32 → Int32 → Nat → Nat → cS → Prop) (x0 : Nat) (x1 : Nat) (x2 : Nat) (x3 : Nat) (x4 : Nat) (x5 : Nat) (x10 : Nat) (x11 : Int32) (x12 : Int32) (cd dd : Nat) (S : cS) : Prop :=
cX S x10 14 ((nI 3)) ∧ (((((cI S x10 ((nI 3)).toNatClampNeg)) ≤ x12 →
  (cd ≤ mc ∧ dd ≤ ms) ∧ (isZ x11 ∧ (Q x11 S))) ∧
 (¬ ((cI S x10 ((nI 3)).toNatClampNeg)) ≤ x12 →
  ((x11 = 0 →
    (cd ≤ mc ∧ dd ≤ ms) ∧ (isZ x11 ∧ (Q x11 S))) ∧
   (¬ x11 = 0 →
    cA S x0 11 ∧ ((cd ≤ mc ∧ dd ≤ ms) ∧ (k_X11_segmentAt (fun r_2 S_2 => 
    cX S_2 x5 14 x12 ∧ (((¬ r_2 = ((cI S_2 x5 (x12).toNatClampNeg)) →
      k_L_isIndex_191 Q dp mc ms R139 x0 x1 x2 x3 x4 x5 x10 x12 cd dd S_2) ∧
     (r_2 = ((cI S_2 x5 (x12).toNatClampNeg)) →
      cA S_2 x0 11 ∧ ((cd ≤ mc ∧ dd ≤ ms) ∧ (k_X11_live (fun r_7 S_7 => 
      cX S_7 x5 14 x12 ∧ (cX S_7 x4 14 ((cI S_7 x5 (x12).toNatClampNeg)) ∧ ((cd ≤ mc ∧ dd ≤ ms) ∧ (k_L_ones (fun r_8 S_8 => 
      ((¬ r_7 = r_8 →
        k_L_isIndex_191 Q dp mc ms R139 x0 x1 x2 x3 x4 x5 x10 x12 cd dd S_8) ∧
       (r_7 = r_8 →
        k_L_isIndex_192 Q dp mc ms R139 x0 x1 x2 x3 x4 x5 x10 x12 ((nI 1)) cd dd S_8))) dp ((cI S_7 x4 ((cI S_7 x5 (x12).toNatClampNeg)).toNatClampNeg)) S_7)))) dp x0 x12 S_2)))))) dp x0 x12 S)))))))
def k_L_isIndex_139L (Q : Int32 → cS → Prop) (dp : Nat) (mc ms : Nat)  (x0 : Nat) (x1 : Nat) (x2 : Nat) (x3 : Nat) (x4 : Nat) (x5 : Nat) (x10 : Nat) (x11 : Int32) (x12 : Int32) (cd dd : Nat) (S : cS) : Prop :=
  lfp (X := Nat × Nat × Nat × Nat × Nat × Nat × Nat × Int32 × Int32 × Nat × Nat × cS) (fun P y => k_L_isIndex_139 Q dp mc ms  (fun b0 b1 b2 b3 b4 b5 b6 b7 b8 b9 b10 S => P (b0, b1, b2, b3, b4, b5, b6, b7, b8, b9, b10, S)) y.1 y.2.1 y.2.2.1 y.2.2.2.1 y.2.2.2.2.1 y.2.2.2.2.2.1 y.2.2.2.2.2.2.1 y.2.2.2.2.2.2.2.1 y.2.2.2.2.2.2.2.2.1 y.2.2.2.2.2.2.2.2.2.1 y.2.2.2.2.2.2.2.2.2.2.1 y.2.2.2.2.2.2.2.2.2.2.2) (x0, x1, x2, x3, x4, x5, x10, x11, x12, cd, dd, S)
def k_L_isIndex_134 (Q : Int32 → cS → Prop) (dp : Nat) (mc ms : Nat)  (x0 : Nat) (x1 : Nat) (x2 : Nat) (x3 : Nat) (x4 : Nat) (x5 : Nat) (x10 : Nat) (t0 : Int32) (cd dd : Nat) (S : cS) : Prop :=
k_L_isIndex_139L Q dp mc ms  x0 x1 x2 x3 x4 x5 x10 t0 (((nI 0))) cd dd S
def k_L_isIndex_133 (Q : Int32 → cS → Prop) (dp : Nat) (mc ms : Nat)  (x0 : Nat) (x1 : Nat) (x2 : Nat) (x3 : Nat) (x4 : Nat) (x5 : Nat) (x10 : Nat) (cd dd : Nat) (S : cS) : Prop :=
k_L_isIndex_134 Q dp mc ms  x0 x1 x2 x3 x4 x5 x10 ((nI 0)) cd dd S
def k_L_isIndex_126 (Q : Int32 → cS → Prop) (dp : Nat) (mc ms : Nat)  (x0 : Nat) (x1 : Nat) (x2 : Nat) (x3 : Nat) (x4 : Nat) (x5 : Nat) (x10 : Nat) (t0 : Int32) (t1 : Int32) (cd dd : Nat) (S : cS) : Prop :=
((¬ t1 = t0 →
  k_L_isIndex_133 Q dp mc ms  x0 x1 x2 x3 x4 x5 x10 cd dd S) ∧
 (t1 = t0 →
  k_L_isIndex_134 Q dp mc ms  x0 x1 x2 x3 x4 x5 x10 ((nI 1)) cd dd S))
def k_L_isIndex_87 (Q : Int32 → cS → Prop) (dp : Nat) (mc ms : Nat)  (x0 : Nat) (x1 : Nat) (x2 : Nat) (x3 : Nat) (x4 : Nat) (x5 : Nat) (x6 : Nat) (x7 : Nat) (x8 : Nat) (x9 : Nat) (x10 : Nat) (t0 : Int32) (t1 : Int32) (cd dd : Nat) (S : cS) : Prop :=
((¬ t1 = t0 →
  k_L_isIndex_133 Q dp mc ms  x0 x1 x2 x3 x4 x5 x10 cd dd S) ∧
 (t1 = t0 →
  (∃ mc17 ms18 : Nat, cd + mc17 ≤ mc ∧ dd + ms18 ≤ ms ∧ (kw_L_did (fun r_19 S_19 => 
  cX S_19 x10 14 ((nI 6)) ∧ (((¬ ((cI S_19 x10 ((nI 6)).toNatClampNeg)) = ((nI 1)) →
    (cd + mc17 ≤ mc ∧ dd + ms18 ≤ ms) ∧ (k_L_files (fun r_20 S_20 => 
    k_L_isIndex_126 Q dp mc ms  x0 x1 x2 x3 x4 x5 x10 r_20 r_19 (cd + mc17) (dd + ms18) S_20) dp x3 x5 x6 x7 x8 x9 x10 S_19)) ∧
   (((cI S_19 x10 ((nI 6)).toNatClampNeg)) = ((nI 1)) →
    k_L_isIndex_126 Q dp mc ms  x0 x1 x2 x3 x4 x5 x10 (((-7))) r_19 (cd + mc17) (dd + ms18) S_19)))) dp mc17 ms18 x0 ((nI 7)) S))))
def k_L_isIndex_56 (Q : Int32 → cS → Prop) (dp : Nat) (mc ms : Nat)  (x0 : Nat) (x1 : Nat) (x2 : Nat) (x3 : Nat) (x4 : Nat) (x5 : Nat) (x6 : Nat) (x7 : Nat) (x8 : Nat) (x9 : Nat) (x10 : Nat) (t0 : Int32) (t1 : Int32) (cd dd : Nat) (S : cS) : Prop :=
((¬ t1 = t0 →
  k_L_isIndex_133 Q dp mc ms  x0 x1 x2 x3 x4 x5 x10 cd dd S) ∧
 (t1 = t0 →
  (∃ mc13 ms14 : Nat, cd + mc13 ≤ mc ∧ dd + ms14 ≤ ms ∧ (kw_L_did (fun r_15 S_15 => 
  cX S_15 x10 14 ((nI 6)) ∧ (((¬ ((cI S_15 x10 ((nI 6)).toNatClampNeg)) = ((nI 1)) →
    (cd + mc13 ≤ mc ∧ dd + ms14 ≤ ms) ∧ (k_L_due (fun r_16 S_16 => 
    k_L_isIndex_87 Q dp mc ms  x0 x1 x2 x3 x4 x5 x6 x7 x8 x9 x10 r_16 r_15 (cd + mc13) (dd + ms14) S_16) dp x3 x5 x10 S_15)) ∧
   (((cI S_15 x10 ((nI 6)).toNatClampNeg)) = ((nI 1)) →
    k_L_isIndex_87 Q dp mc ms  x0 x1 x2 x3 x4 x5 x6 x7 x8 x9 x10 (((-7))) r_15 (cd + mc13) (dd + ms14) S_15)))) dp mc13 ms14 x0 ((nI 8)) S))))
def k_L_isIndex_18 (Q : Int32 → cS → Prop) (dp : Nat) (mc ms : Nat)  (x0 : Nat) (x1 : Nat) (x2 : Nat) (x3 : Nat) (x4 : Nat) (x5 : Nat) (x6 : Nat) (x7 : Nat) (x8 : Nat) (x9 : Nat) (x10 : Nat) (t0 : Int32) (t1 : Int32) (cd dd : Nat) (S : cS) : Prop :=
((¬ t1 = t0 →
  k_L_isIndex_133 Q dp mc ms  x0 x1 x2 x3 x4 x5 x10 cd dd S) ∧
 (t1 = t0 →
  cA S x0 11 ∧ ((cd ≤ mc ∧ dd ≤ ms) ∧ (k_X11_writes (fun r_9 S_9 => 
  cX S_9 x10 14 ((nI 4)) ∧ (((¬ r_9 = ((cI S_9 x10 ((nI 4)).toNatClampNeg)) →
    k_L_isIndex_133 Q dp mc ms  x0 x1 x2 x3 x4 x5 x10 cd dd S_9) ∧
   (r_9 = ((cI S_9 x10 ((nI 4)).toNatClampNeg)) →
    (∃ mc10 ms11 : Nat, cd + mc10 ≤ mc ∧ dd + ms11 ≤ ms ∧ (kw_L_did (fun r_12 S_12 => 
    cX S_12 x10 14 ((nI 6)) ∧ (((¬ ((cI S_12 x10 ((nI 6)).toNatClampNeg)) = ((nI 1)) →
      cX S_12 x10 14 ((nI 3)) ∧ (k_L_isIndex_56 Q dp mc ms  x0 x1 x2 x3 x4 x5 x6 x7 x8 x9 x10 ((cI S_12 x10 ((nI 3)).toNatClampNeg)) r_12 (cd + mc10) (dd + ms11) S_12)) ∧
     (((cI S_12 x10 ((nI 6)).toNatClampNeg)) = ((nI 1)) →
      k_L_isIndex_56 Q dp mc ms  x0 x1 x2 x3 x4 x5 x6 x7 x8 x9 x10 (((-7))) r_12 (cd + mc10) (dd + ms11) S_12)))) dp mc10 ms11 x0 ((nI 9)) S_9)))))) dp x0 S))))
def k_L_isIndex (Q : Int32 → cS → Prop) (dp : Nat) (mc ms : Nat) (x0 : Nat) (x1 : Nat) (x2 : Nat) (x3 : Nat) (x4 : Nat) (x5 : Nat) (x6 : Nat) (x7 : Nat) (x8 : Nat) (x9 : Nat) (x10 : Nat) (S : cS) : Prop :=
cA S x0 11 ∧ ((0 ≤ mc ∧ 0 ≤ ms) ∧ (k_X11_isDown (fun r_1 S_1 => 
cX S_1 x10 14 ((nI 6)) ∧ (((¬ ((cI S_1 x10 ((nI 6)).toNatClampNeg)) = ((nI 1)) →
  k_L_isIndex_18 Q dp mc ms  x0 x1 x2 x3 x4 x5 x6 x7 x8 x9 x10 ((nI 0)) r_1 0 0 S_1) ∧
 (((cI S_1 x10 ((nI 6)).toNatClampNeg)) = ((nI 1)) →
  k_L_isIndex_18 Q dp mc ms  x0 x1 x2 x3 x4 x5 x6 x7 x8 x9 x10 ((nI 1)) r_1 0 0 S_1)))) dp x0 S))
def k_L_deletes_188 (Q : Int32 → cS → Prop) (dp : Nat) (R78 : Nat → Nat → Nat → Nat → Nat → Nat → Int32 → Int32 → Int32 → cS → Prop) (R90 : Nat → Nat → Nat → Nat → Nat → Nat → Int32 → Int32 → Int32 → Int32 → cS → Prop) (x0 : Nat) (x2 : Nat) (x3 : Nat) (x4 : Nat) (x5 : Nat) (x6 : Nat) (x7 : Int32) (x10 : Int32) (x11 : Int32) (t0 : Int32) (t1 : Int32) (S : cS) : Prop :=
∀ x9_5 : Int32, x9_5 = (t1 + t0) → ∀ x11_6 : Int32, x11_6 = x11 + nI 1 → R90 x0 x2 x3 x4 x5 x6 x7 x9_5 x10 x11_6 S
def k_L_deletes_174 (Q : Int32 → cS → Prop) (dp : Nat) (R78 : Nat → Nat → Nat → Nat → Nat → Nat → Int32 → Int32 → Int32 → cS → Prop) (R90 : Nat → Nat → Nat → Nat → Nat → Nat → Int32 → Int32 → Int32 → Int32 → cS → Prop) (x0 : Nat) (x2 : Nat) (x3 : Nat) (x4 : Nat) (x5 : Nat) (x6 : Nat) (x7 : Int32) (x9 : Int32) (x10 : Int32) (x11 : Int32) (x12 : Int32) (t0 : Int32) (t1 : Int32) (t2 : Int32) (t3 : Nat) (S : cS) : Prop :=
cX S t3 14 t2 ∧ (∀ S4 : cS, S4 = cSI S t3 (t2).toNatClampNeg ((t1 &&& t0)) → ((x12 = 0 →
  k_L_deletes_188 Q dp R78 R90 x0 x2 x3 x4 x5 x6 x7 x10 x11 ((nI 0)) x9 S4) ∧
 (¬ x12 = 0 →
  k_L_deletes_188 Q dp R78 R90 x0 x2 x3 x4 x5 x6 x7 x10 x11 ((nI 1)) x9 S4)))
def k_L_deletes_148 (Q : Int32 → cS → Prop) (dp : Nat) (R78 : Nat → Nat → Nat → Nat → Nat → Nat → Int32 → Int32 → Int32 → cS → Prop) (R90 : Nat → Nat → Nat → Nat → Nat → Nat → Int32 → Int32 → Int32 → Int32 → cS → Prop) (x0 : Nat) (x2 : Nat) (x3 : Nat) (x4 : Nat) (x5 : Nat) (x6 : Nat) (x7 : Int32) (x9 : Int32) (x10 : Int32) (x11 : Int32) (t0 : Int32) (S : cS) : Prop :=
cX S x5 14 x10 ∧ (cX S x4 14 ((cI S x5 (x10).toNatClampNeg)) ∧ (((t0 = 0 →
  k_L_deletes_174 Q dp R78 R90 x0 x2 x3 x4 x5 x6 x7 x9 x10 x11 t0 (((-1))) ((cI S x4 ((cI S x5 (x10).toNatClampNeg)).toNatClampNeg)) ((cI S x5 (x10).toNatClampNeg)) x4 S) ∧
 (¬ t0 = 0 →
  k_L_deletes_174 Q dp R78 R90 x0 x2 x3 x4 x5 x6 x7 x9 x10 x11 t0 ((((((nI 1)) <<< (x11 &&& 31))) ^^^ (((-1))))) ((cI S x4 ((cI S x5 (x10).toNatClampNeg)).toNatClampNeg)) ((cI S x5 (x10).toNatClampNeg)) x4 S))))
def k_L_deletes_147 (Q : Int32 → cS → Prop) (dp : Nat) (R78 : Nat → Nat → Nat → Nat → Nat → Nat → Int32 → Int32 → Int32 → cS → Prop) (R90 : Nat → Nat → Nat → Nat → Nat → Nat → Int32 → Int32 → Int32 → Int32 → cS → Prop) (x0 : Nat) (x2 : Nat) (x3 : Nat) (x4 : Nat) (x5 : Nat) (x6 : Nat) (x7 : Int32) (x9 : Int32) (x10 : Int32) (x11 : Int32) (S : cS) : Prop :=
k_L_deletes_148 Q dp R78 R90 x0 x2 x3 x4 x5 x6 x7 x9 x10 x11 ((nI 0)) S
def k_L_deletes_90 (Q : Int32 → cS → Prop) (dp : Nat) (R78 : Nat → Nat → Nat → Nat → Nat → Nat → Int32 → Int32 → Int32 → cS → Prop) (R90 : Nat → Nat → Nat → Nat → Nat → Nat → Int32 → Int32 → Int32 → Int32 → cS → Prop) (x0 : Nat) (x2 : Nat) (x3 : Nat) (x4 : Nat) (x5 : Nat) (x6 : Nat) (x7 : Int32) (x9 : Int32) (x10 : Int32) (x11 : Int32) (S : cS) : Prop :=
cX S x5 14 x10 ∧ (cX S x3 14 ((cI S x5 (x10).toNatClampNeg)) ∧ (((((cI S x3 ((cI S x5 (x10).toNatClampNeg)).toNatClampNeg)) ≤ x11 →
  ∀ x10_3 : Int32, x10_3 = x10 + nI 1 → R78 x0 x2 x3 x4 x5 x6 x7 x9 x10_3 S) ∧
 (¬ ((cI S x3 ((cI S x5 (x10).toNatClampNeg)).toNatClampNeg)) ≤ x11 →
  cX S x5 14 x10 ∧ (cX S x4 14 ((cI S x5 (x10).toNatClampNeg)) ∧ (((¬ ((((((cI S x4 ((cI S x5 (x10).toNatClampNeg)).toNatClampNeg)) >>> (x11 &&& 31))) &&& ((nI 1)))) = ((nI 1)) →
    k_L_deletes_147 Q dp R78 R90 x0 x2 x3 x4 x5 x6 x7 x9 x10 x11 S) ∧
   (((((((cI S x4 ((cI S x5 (x10).toNatClampNeg)).toNatClampNeg)) >>> (x11 &&& 31))) &&& ((nI 1)))) = ((nI 1)) →
    cX S x5 14 x10 ∧ (k_L_record (fun r_7 S_7 => 
    cX S_7 x0 15 r_7 ∧ (((¬ ((cJ S_7 x0 (r_7).toNatClampNeg) &&& 15) = ((x7).toInt64) →
      k_L_deletes_147 Q dp R78 R90 x0 x2 x3 x4 x5 x6 x7 x9 x10 x11 S_7) ∧
     (((cJ S_7 x0 (r_7).toNatClampNeg) &&& 15) = ((x7).toInt64) →
      k_L_deletes_148 Q dp R78 R90 x0 x2 x3 x4 x5 x6 x7 x9 x10 x11 ((nI 1)) S_7)))) dp x2 ((cI S x5 (x10).toNatClampNeg)) x11 S)))))))))
def k_L_deletes_90L (Q : Int32 → cS → Prop) (dp : Nat) (R78 : Nat → Nat → Nat → Nat → Nat → Nat → Int32 → Int32 → Int32 → cS → Prop) (x0 : Nat) (x2 : Nat) (x3 : Nat) (x4 : Nat) (x5 : Nat) (x6 : Nat) (x7 : Int32) (x9 : Int32) (x10 : Int32) (x11 : Int32) (S : cS) : Prop :=
  lfp (X := Nat × Nat × Nat × Nat × Nat × Nat × Int32 × Int32 × Int32 × Int32 × cS) (fun P y => k_L_deletes_90 Q dp R78 (fun b0 b1 b2 b3 b4 b5 b6 b7 b8 b9 S => P (b0, b1, b2, b3, b4, b5, b6, b7, b8, b9, S)) y.1 y.2.1 y.2.2.1 y.2.2.2.1 y.2.2.2.2.1 y.2.2.2.2.2.1 y.2.2.2.2.2.2.1 y.2.2.2.2.2.2.2.1 y.2.2.2.2.2.2.2.2.1 y.2.2.2.2.2.2.2.2.2.1 y.2.2.2.2.2.2.2.2.2.2) (x0, x2, x3, x4, x5, x6, x7, x9, x10, x11, S)
def k_L_deletes_78 (Q : Int32 → cS → Prop) (dp : Nat) (R78 : Nat → Nat → Nat → Nat → Nat → Nat → Int32 → Int32 → Int32 → cS → Prop) (x0 : Nat) (x2 : Nat) (x3 : Nat) (x4 : Nat) (x5 : Nat) (x6 : Nat) (x7 : Int32) (x9 : Int32) (x10 : Int32) (S : cS) : Prop :=
cX S x6 14 ((nI 3)) ∧ (((((cI S x6 ((nI 3)).toNatClampNeg)) ≤ x10 →
  Q x9 S) ∧
 (¬ ((cI S x6 ((nI 3)).toNatClampNeg)) ≤ x10 →
  k_L_deletes_90L Q dp R78 x0 x2 x3 x4 x5 x6 x7 x9 x10 (((nI 0))) S)))
def k_L_deletes_78L (Q : Int32 → cS → Prop) (dp : Nat)  (x0 : Nat) (x2 : Nat) (x3 : Nat) (x4 : Nat) (x5 : Nat) (x6 : Nat) (x7 : Int32) (x9 : Int32) (x10 : Int32) (S : cS) : Prop :=
  lfp (X := Nat × Nat × Nat × Nat × Nat × Nat × Int32 × Int32 × Int32 × cS) (fun P y => k_L_deletes_78 Q dp  (fun b0 b1 b2 b3 b4 b5 b6 b7 b8 S => P (b0, b1, b2, b3, b4, b5, b6, b7, b8, S)) y.1 y.2.1 y.2.2.1 y.2.2.2.1 y.2.2.2.2.1 y.2.2.2.2.2.1 y.2.2.2.2.2.2.1 y.2.2.2.2.2.2.2.1 y.2.2.2.2.2.2.2.2.1 y.2.2.2.2.2.2.2.2.2) (x0, x2, x3, x4, x5, x6, x7, x9, x10, S)
def k_L_deletes_48 (Q : Int32 → cS → Prop) (dp : Nat) (R9 : Nat → Nat → Nat → Nat → Nat → Nat → Nat → Int32 → Int32 → Int32 → Int32 → cS → Prop) (x0 : Nat) (x1 : Nat) (x2 : Nat) (x3 : Nat) (x4 : Nat) (x5 : Nat) (x6 : Nat) (x7 : Int32) (x9 : Int32) (x10 : Int32) (t0 : Int32) (t1 : Int32) (S : cS) : Prop :=
∀ x8_9 : Int32, x8_9 = (t1 + t0) → ∀ x10_10 : Int32, x10_10 = x10 + nI 1 → R9 x0 x1 x2 x3 x4 x5 x6 x7 x8_9 x9 x10_10 S
def k_L_deletes_9 (Q : Int32 → cS → Prop) (dp : Nat) (R9 : Nat → Nat → Nat → Nat → Nat → Nat → Nat → Int32 → Int32 → Int32 → Int32 → cS → Prop) (x0 : Nat) (x1 : Nat) (x2 : Nat) (x3 : Nat) (x4 : Nat) (x5 : Nat) (x6 : Nat) (x7 : Int32) (x8 : Int32) (x9 : Int32) (x10 : Int32) (S : cS) : Prop :=
cX S x6 14 ((nI 1)) ∧ (((((cI S x6 ((nI 1)).toNatClampNeg)) ≤ x10 →
  cX S x6 14 ((nI 1)) ∧ (∀ x9_1 : Int32, x9_1 = (x9 + ((((cI S x6 ((nI 1)).toNatClampNeg)) - x8))) → cX S x6 14 ((nI 1)) ∧ (∀ S2 : cS, S2 = cSI S x6 ((nI 1)).toNatClampNeg x8 → k_L_deletes_78L Q dp  x0 x2 x3 x4 x5 x6 x7 x9_1 (((nI 0))) S2))) ∧
 (¬ ((cI S x6 ((nI 1)).toNatClampNeg)) ≤ x10 →
  cX S x1 15 x10 ∧ (cX S x1 15 x8 ∧ (∀ S8 : cS, S8 = cSJ S x1 (x8).toNatClampNeg (cJ S x1 (x10).toNatClampNeg) → cX S8 x1 15 x10 ∧ (((¬ ((cJ S8 x1 (x10).toNatClampNeg) &&& 15) = ((x7).toInt64) →
    k_L_deletes_48 Q dp R9 x0 x1 x2 x3 x4 x5 x6 x7 x9 x10 ((nI 1)) x8 S8) ∧
   (((cJ S8 x1 (x10).toNatClampNeg) &&& 15) = ((x7).toInt64) →
    k_L_deletes_48 Q dp R9 x0 x1 x2 x3 x4 x5 x6 x7 x9 x10 ((nI 0)) x8 S8))))))))
def k_L_deletes_9L (Q : Int32 → cS → Prop) (dp : Nat)  (x0 : Nat) (x1 : Nat) (x2 : Nat) (x3 : Nat) (x4 : Nat) (x5 : Nat) (x6 : Nat) (x7 : Int32) (x8 : Int32) (x9 : Int32) (x10 : Int32) (S : cS) : Prop :=
  lfp (X := Nat × Nat × Nat × Nat × Nat × Nat × Nat × Int32 × Int32 × Int32 × Int32 × cS) (fun P y => k_L_deletes_9 Q dp  (fun b0 b1 b2 b3 b4 b5 b6 b7 b8 b9 b10 S => P (b0, b1, b2, b3, b4, b5, b6, b7, b8, b9, b10, S)) y.1 y.2.1 y.2.2.1 y.2.2.2.1 y.2.2.2.2.1 y.2.2.2.2.2.1 y.2.2.2.2.2.2.1 y.2.2.2.2.2.2.2.1 y.2.2.2.2.2.2.2.2.1 y.2.2.2.2.2.2.2.2.2.1 y.2.2.2.2.2.2.2.2.2.2.1 y.2.2.2.2.2.2.2.2.2.2.2) (x0, x1, x2, x3, x4, x5, x6, x7, x8, x9, x10, S)
def k_L_deletes (Q : Int32 → cS → Prop) (dp : Nat) (x0 : Nat) (x1 : Nat) (x2 : Nat) (x3 : Nat) (x4 : Nat) (x5 : Nat) (x6 : Nat) (x7 : Int32) (S : cS) : Prop :=
k_L_deletes_9L Q dp  x0 x1 x2 x3 x4 x5 x6 x7 (((nI 0))) (((nI 0))) (((nI 0))) S
def k_L_isAdded_132 (Q : Int32 → cS → Prop) (dp : Nat) (mc ms : Nat) (R18 : Nat → Nat → Nat → Nat → Nat → Nat → Nat → Nat → Int32 → Int32 → Int32 → Int64 → Int32 → Int32 → Nat → Nat → cS → Prop) (x0 : Nat) (x1 : Nat) (x2 : Nat) (x3 : Nat) (x4 : Nat) (x5 : Nat) (x6 : Nat) (x7 : Nat) (x8 : Int32) (x9 : Int32) (x10 : Int32) (x11 : Int64) (x14 : Int32) (t0 : Int32) (cd dd : Nat) (S : cS) : Prop :=
∀ x14_14 : Int32, x14_14 = x14 + nI 1 → R18 x0 x1 x2 x3 x4 x5 x6 x7 x8 x9 x10 x11 t0 x14_14 cd dd S
def k_L_isAdded_131 (Q : Int32 → cS → Prop) (dp : Nat) (mc ms : Nat) (R18 : Nat → Nat → Nat → Nat → Nat → Nat → Nat → Nat → Int32 → Int32 → Int32 → Int64 → Int32 → Int32 → Nat → Nat → cS → Prop) (x0 : Nat) (x1 : Nat) (x2 : Nat) (x3 : Nat) (x4 : Nat) (x5 : Nat) (x6 : Nat) (x7 : Nat) (x8 : Int32) (x9 : Int32) (x10 : Int32) (x11 : Int64) (x14 : Int32) (cd dd : Nat) (S : cS) : Prop :=
k_L_isAdded_132 Q dp mc ms R18 x0 x1 x2 x3 x4 x5 x6 x7 x8 x9 x10 x11 x14 ((nI 0)) cd dd S
def k_L_isAdded_47 (Q : Int32 → cS → Prop) (dp : Nat) (mc ms : Nat) (R18 : Nat → Nat → Nat → Nat → Nat → Nat → Nat → Nat → Int32 → Int32 → Int32 → Int64 → Int32 → Int32 → Nat → Nat → cS → Prop) (R47 : Nat → Nat → Nat → Nat → Nat → Nat → Nat → Nat → Int32 → Int32 → Int32 → Int64 → Int32 → Int32 → Int32 → Int32 → Nat → Nat → cS → Prop) (x0 : Nat) (x1 : Nat) (x2 : Nat) (x3 : Nat) (x4 : Nat) (x5 : Nat) (x6 : Nat) (x7 : Nat) (x8 : Int32) (x9 : Int32) (x10 : Int32) (x11 : Int64) (x13 : Int32) (x14 : Int32) (x15 : Int32) (x16 : Int32) (cd dd : Nat) (S : cS) : Prop :=
((((((nI 1)) + ((x15 - x15 / ((nI 5)) * ((nI 5)))))) ≤ x16 →
  ((x13 = 0 →
    k_L_isAdded_131 Q dp mc ms R18 x0 x1 x2 x3 x4 x5 x6 x7 x8 x9 x10 x11 x14 cd dd S) ∧
   (¬ x13 = 0 →
    cA S x0 11 ∧ ((∃ mc15 ms16 : Nat, cd + mc15 ≤ mc ∧ dd + ms16 ≤ ms ∧ (k_X11_text (fun r_17 S_17 => 
    (cd + mc15 ≤ mc ∧ dd + ms16 ≤ ms) ∧ (k_L_tokens (fun r_18 S_18 => 
    ((¬ r_17 = r_18 →
      k_L_isAdded_131 Q dp mc ms R18 x0 x1 x2 x3 x4 x5 x6 x7 x8 x9 x10 x11 x14 (cd + mc15) (dd + ms16) S_18) ∧
     (r_17 = r_18 →
      k_L_isAdded_132 Q dp mc ms R18 x0 x1 x2 x3 x4 x5 x6 x7 x8 x9 x10 x11 x14 ((nI 1)) (cd + mc15) (dd + ms16) S_18))) dp x11 x14 S_17)) dp mc15 ms16 x0 x14 S)))))) ∧
 (¬ ((((nI 1)) + ((x15 - x15 / ((nI 5)) * ((nI 5)))))) ≤ x16 →
  ∀ x17_19 : Int32, x17_19 = (((nI 1)) + ((((((x15 >>> (x16 &&& 31))) &&& (((65535))))) - ((((x15 >>> (x16 &&& 31))) &&& (((65535))))) / ((nI 7)) * ((nI 7))))) → ∀ x11_20 : Int64, x11_20 = x11 ||| (jSl ((x17_19).toInt64) ((((((nI 4)) + ((((nI 20)) * x14)))) + ((((nI 4)) * x16))))) → (cd ≤ mc ∧ dd ≤ ms) ∧ (k_L_types (fun S_21 => 
  ∀ x16_22 : Int32, x16_22 = x16 + nI 1 → R47 x0 x1 x2 x3 x4 x5 x6 x7 x8 x9 x10 x11_20 x13 x14 x15 x16_22 cd dd S_21) dp x0 x17_19 S)))
def k_L_isAdded_47L (Q : Int32 → cS → Prop) (dp : Nat) (mc ms : Nat) (R18 : Nat → Nat → Nat → Nat → Nat → Nat → Nat → Nat → Int32 → Int32 → Int32 → Int64 → Int32 → Int32 → Nat → Nat → cS → Prop) (x0 : Nat) (x1 : Nat) (x2 : Nat) (x3 : Nat) (x4 : Nat) (x5 : Nat) (x6 : Nat) (x7 : Nat) (x8 : Int32) (x9 : Int32) (x10 : Int32) (x11 : Int64) (x13 : Int32) (x14 : Int32) (x15 : Int32) (x16 : Int32) (cd dd : Nat) (S : cS) : Prop :=
  lfp (X := Nat × Nat × Nat × Nat × Nat × Nat × Nat × Nat × Int32 × Int32 × Int32 × Int64 × Int32 × Int32 × Int32 × Int32 × Nat × Nat × cS) (fun P y => k_L_isAdded_47 Q dp mc ms R18 (fun b0 b1 b2 b3 b4 b5 b6 b7 b8 b9 b10 b11 b12 b13 b14 b15 b16 b17 S => P (b0, b1, b2, b3, b4, b5, b6, b7, b8, b9, b10, b11, b12, b13, b14, b15, b16, b17, S)) y.1 y.2.1 y.2.2.1 y.2.2.2.1 y.2.2.2.2.1 y.2.2.2.2.2.1 y.2.2.2.2.2.2.1 y.2.2.2.2.2.2.2.1 y.2.2.2.2.2.2.2.2.1 y.2.2.2.2.2.2.2.2.2.1 y.2.2.2.2.2.2.2.2.2.2.1 y.2.2.2.2.2.2.2.2.2.2.2.1 y.2.2.2.2.2.2.2.2.2.2.2.2.1 y.2.2.2.2.2.2.2.2.2.2.2.2.2.1 y.2.2.2.2.2.2.2.2.2.2.2.2.2.2.1 y.2.2.2.2.2.2.2.2.2.2.2.2.2.2.2.1 y.2.2.2.2.2.2.2.2.2.2.2.2.2.2.2.2.1 y.2.2.2.2.2.2.2.2.2.2.2.2.2.2.2.2.2.1 y.2.2.2.2.2.2.2.2.2.2.2.2.2.2.2.2.2.2) (x0, x1, x2, x3, x4, x5, x6, x7, x8, x9, x10, x11, x13, x14, x15, x16, cd, dd, S)
def k_L_isAdded_42 (Q : Int32 → cS → Prop) (dp : Nat) (mc ms : Nat) (R18 : Nat → Nat → Nat → Nat → Nat → Nat → Nat → Nat → Int32 → Int32 → Int32 → Int64 → Int32 → Int32 → Nat → Nat → cS → Prop) (x0 : Nat) (x1 : Nat) (x2 : Nat) (x3 : Nat) (x4 : Nat) (x5 : Nat) (x6 : Nat) (x7 : Nat) (x8 : Int32) (x9 : Int32) (x10 : Int32) (x11 : Int64) (x13 : Int32) (x14 : Int32) (t0 : Int32) (cd dd : Nat) (S : cS) : Prop :=
k_L_isAdded_47L Q dp mc ms R18 x0 x1 x2 x3 x4 x5 x6 x7 x8 x9 x10 x11 x13 x14 t0 (((nI 0))) cd dd S
def k_L_isAdded_18 (Q : Int32 → cS → Prop) (dp : Nat) (mc ms : Nat) (R18 : Nat → Nat → Nat → Nat → Nat → Nat → Nat → Nat → Int32 → Int32 → Int32 → Int64 → Int32 → Int32 → Nat → Nat → cS → Prop) (x0 : Nat) (x1 : Nat) (x2 : Nat) (x3 : Nat) (x4 : Nat) (x5 : Nat) (x6 : Nat) (x7 : Nat) (x8 : Int32) (x9 : Int32) (x10 : Int32) (x11 : Int64) (x13 : Int32) (x14 : Int32) (cd dd : Nat) (S : cS) : Prop :=
((((nI 2)) ≤ x14 →
  cA S x0 11 ∧ ((cd ≤ mc ∧ dd ≤ ms) ∧ (k_X11_columns (fun S_3 => 
  ∀ x11_4 : Int64, x11_4 = x11 ||| ((jSl (((((x8 / ((nI 10)))) - ((x8 / ((nI 10)))) / ((nI 3)) * ((nI 3)))).toInt64) ((nI 44))) ||| (jSl (((((x8 / ((nI 30)))) - ((x8 / ((nI 30)))) / ((nI 5)) * ((nI 5)))).toInt64) ((nI 48)))) → cX S_3 x7 14 ((nI 6)) ∧ (((¬ ((cI S_3 x7 ((nI 6)).toNatClampNeg)) = ((nI 1)) →
    (cd ≤ mc ∧ dd ≤ ms) ∧ (k_L_deletes (fun r_5 S_5 => 
    cX S_5 x7 14 ((nI 1)) ∧ (cX S_5 x2 15 ((cI S_5 x7 ((nI 1)).toNatClampNeg)) ∧ (∀ S6 : cS, S6 = cSJ S_5 x2 ((cI S_5 x7 ((nI 1)).toNatClampNeg)).toNatClampNeg x11_4 → cX S6 x7 14 ((nI 1)) ∧ (cX S6 x7 14 ((nI 1)) ∧ (∀ S7 : cS, S7 = cSI S6 x7 ((nI 1)).toNatClampNeg ((((cI S6 x7 ((nI 1)).toNatClampNeg)) + ((nI 1)))) → ((x13 = 0 →
      (cd ≤ mc ∧ dd ≤ ms) ∧ (Q ((bI false)) S7)) ∧
     (¬ x13 = 0 →
      (∃ mc8 ms9 : Nat, cd + mc8 ≤ mc ∧ dd + ms9 ≤ ms ∧ (kw_L_added (fun r_10 S_10 => 
      cX S_10 x7 14 ((nI 1)) ∧ (((¬ r_10 = ((cI S_10 x7 ((nI 1)).toNatClampNeg)) →
        (cd + mc8 ≤ mc ∧ dd + ms9 ≤ ms) ∧ (Q ((bI false)) S_10)) ∧
       (r_10 = ((cI S_10 x7 ((nI 1)).toNatClampNeg)) →
        (cd + mc8 ≤ mc ∧ dd + ms9 ≤ ms) ∧ (Q ((bI true)) S_10))))) dp mc8 ms9 x0 x10 S7))))))))) dp x1 x2 x3 x4 x5 x6 x7 x10 S_3)) ∧
   (((cI S_3 x7 ((nI 6)).toNatClampNeg)) = ((nI 1)) →
    ((x13 = 0 →
      (cd ≤ mc ∧ dd ≤ ms) ∧ (Q ((bI false)) S_3)) ∧
     (¬ x13 = 0 →
      (∃ mc11 ms12 : Nat, cd + mc11 ≤ mc ∧ dd + ms12 ≤ ms ∧ (kw_L_added (fun r_13 S_13 => 
      ((¬ r_13 = (((-7))) →
        (cd + mc11 ≤ mc ∧ dd + ms12 ≤ ms) ∧ (Q ((bI false)) S_13)) ∧
       (r_13 = (((-7))) →
        (cd + mc11 ≤ mc ∧ dd + ms12 ≤ ms) ∧ (Q ((bI true)) S_13)))) dp mc11 ms12 x0 x10 S_3)))))))) dp x0 ((((x8 / ((nI 10)))) - ((x8 / ((nI 10)))) / ((nI 3)) * ((nI 3)))) ((((x8 / ((nI 30)))) - ((x8 / ((nI 30)))) / ((nI 5)) * ((nI 5)))) S))) ∧
 (¬ ((nI 2)) ≤ x14 →
  ((¬ x14 = 0 →
    k_L_isAdded_42 Q dp mc ms R18 x0 x1 x2 x3 x4 x5 x6 x7 x8 x9 x10 x11 x13 x14 ((((x9 / ((nI 17)))) ^^^ x8)) cd dd S) ∧
   (x14 = 0 →
    k_L_isAdded_42 Q dp mc ms R18 x0 x1 x2 x3 x4 x5 x6 x7 x8 x9 x10 x11 x13 x14 x9 cd dd S))))
def k_L_isAdded_18L (Q : Int32 → cS → Prop) (dp : Nat) (mc ms : Nat)  (x0 : Nat) (x1 : Nat) (x2 : Nat) (x3 : Nat) (x4 : Nat) (x5 : Nat) (x6 : Nat) (x7 : Nat) (x8 : Int32) (x9 : Int32) (x10 : Int32) (x11 : Int64) (x13 : Int32) (x14 : Int32) (cd dd : Nat) (S : cS) : Prop :=
  lfp (X := Nat × Nat × Nat × Nat × Nat × Nat × Nat × Nat × Int32 × Int32 × Int32 × Int64 × Int32 × Int32 × Nat × Nat × cS) (fun P y => k_L_isAdded_18 Q dp mc ms  (fun b0 b1 b2 b3 b4 b5 b6 b7 b8 b9 b10 b11 b12 b13 b14 b15 S => P (b0, b1, b2, b3, b4, b5, b6, b7, b8, b9, b10, b11, b12, b13, b14, b15, S)) y.1 y.2.1 y.2.2.1 y.2.2.2.1 y.2.2.2.2.1 y.2.2.2.2.2.1 y.2.2.2.2.2.2.1 y.2.2.2.2.2.2.2.1 y.2.2.2.2.2.2.2.2.1 y.2.2.2.2.2.2.2.2.2.1 y.2.2.2.2.2.2.2.2.2.2.1 y.2.2.2.2.2.2.2.2.2.2.2.1 y.2.2.2.2.2.2.2.2.2.2.2.2.1 y.2.2.2.2.2.2.2.2.2.2.2.2.2.1 y.2.2.2.2.2.2.2.2.2.2.2.2.2.2.1 y.2.2.2.2.2.2.2.2.2.2.2.2.2.2.2.1 y.2.2.2.2.2.2.2.2.2.2.2.2.2.2.2.2) (x0, x1, x2, x3, x4, x5, x6, x7, x8, x9, x10, x11, x13, x14, cd, dd, S)
def k_L_isAdded (Q : Int32 → cS → Prop) (dp : Nat) (mc ms : Nat) (x0 : Nat) (x1 : Nat) (x2 : Nat) (x3 : Nat) (x4 : Nat) (x5 : Nat) (x6 : Nat) (x7 : Nat) (x8 : Int32) (x9 : Int32) (S : cS) : Prop :=
∀ x10_1 : Int32, x10_1 = (x8 - x8 / ((nI 10)) * ((nI 10))) → ∀ x11_2 : Int64, x11_2 = (x10_1).toInt64 → k_L_isAdded_18L Q dp mc ms  x0 x1 x2 x3 x4 x5 x6 x7 x8 x9 x10_1 x11_2 (((nI 1))) (((nI 0))) 0 0 S
def k_L_isMerged_215 (Q : Int32 → cS → Prop) (dp : Nat) (mc ms : Nat)  (t0 : Int32) (t1 : Nat) (cd dd : Nat) (S : cS) : Prop :=
(∃ mc1 ms2 : Nat, cd + mc1 ≤ mc ∧ dd + ms2 ≤ ms ∧ (kw_L_did (fun r_3 S_3 => 
((¬ r_3 = (((-7))) →
  (cd + mc1 ≤ mc ∧ dd + ms2 ≤ ms) ∧ (Q ((bI false)) S_3)) ∧
 (r_3 = (((-7))) →
  (cd + mc1 ≤ mc ∧ dd + ms2 ≤ ms) ∧ (Q ((bI true)) S_3)))) dp mc1 ms2 t1 t0 S))
def k_L_isMerged_203 (Q : Int32 → cS → Prop) (dp : Nat) (mc ms : Nat)  (x0 : Nat) (x11 : Int32) (cd dd : Nat) (S : cS) : Prop :=
((¬ x11 = ((nI 1)) →
  k_L_isMerged_215 Q dp mc ms  ((nI 3)) x0 cd dd S) ∧
 (x11 = ((nI 1)) →
  k_L_isMerged_215 Q dp mc ms  ((nI 2)) x0 cd dd S))
def k_L_isMerged_546 (Q : Int32 → cS → Prop) (dp : Nat) (mc ms : Nat)  (x0 : Nat) (x10 : Nat) (cd dd : Nat) (S : cS) : Prop :=
cX S x10 14 ((nI 9)) ∧ (∀ S13 : cS, S13 = cSI S x10 ((nI 9)).toNatClampNeg ((nI 0)) → (∃ mc14 ms15 : Nat, cd + mc14 ≤ mc ∧ dd + ms15 ≤ ms ∧ (kw_L_did (fun r_16 S_16 => 
((¬ r_16 = (((-1))) →
  (cd + mc14 ≤ mc ∧ dd + ms15 ≤ ms) ∧ (Q ((bI false)) S_16)) ∧
 (r_16 = (((-1))) →
  (cd + mc14 ≤ mc ∧ dd + ms15 ≤ ms) ∧ (Q ((bI true)) S_16)))) dp mc14 ms15 x0 ((nI 2)) S13)))
def k_L_isMerged_488 (Q : Int32 → cS → Prop) (dp : Nat) (mc ms : Nat) (R488 : Nat → Nat → Nat → Int32 → Int32 → Int32 → Int32 → Nat → Nat → cS → Prop) (x0 : Nat) (x5 : Nat) (x10 : Nat) (x12 : Int32) (x13 : Int32) (x14 : Int32) (x15 : Int32) (cd dd : Nat) (S : cS) : Prop :=
cX S x10 14 ((nI 3)) ∧ (((((cI S x10 ((nI 3)).toNatClampNeg)) ≤ x15 →
  cX S x10 14 ((nI 3)) ∧ (cX S x10 14 ((nI 3)) ∧ (∀ S12 : cS, S12 = cSI S x10 ((nI 3)).toNatClampNeg ((((cI S x10 ((nI 3)).toNatClampNeg)) - x14)) → ((¬ x14 = ((nI 2)) →
    k_L_isMerged_546 Q dp mc ms  x0 x10 cd dd S12) ∧
   (x14 = ((nI 2)) →
    cX S12 x5 14 x12 ∧ (∀ S17 : cS, S17 = cSI S12 x5 (x12).toNatClampNeg x13 → cX S17 x10 14 ((nI 2)) ∧ (cX S17 x10 14 ((nI 2)) ∧ (∀ S18 : cS, S18 = cSI S17 x10 ((nI 2)).toNatClampNeg ((((cI S17 x10 ((nI 2)).toNatClampNeg)) + ((nI 1)))) → k_L_isMerged_546 Q dp mc ms  x0 x10 cd dd S18)))))))) ∧
 (¬ ((cI S x10 ((nI 3)).toNatClampNeg)) ≤ x15 →
  cX S x5 14 x15 ∧ (cX S x5 14 ((x15 - x14)) ∧ (∀ S19 : cS, S19 = cSI S x5 ((x15 - x14)).toNatClampNeg ((cI S x5 (x15).toNatClampNeg)) → ∀ x15_20 : Int32, x15_20 = x15 + nI 1 → R488 x0 x5 x10 x12 x13 x14 x15_20 cd dd S19)))))
def k_L_isMerged_488L (Q : Int32 → cS → Prop) (dp : Nat) (mc ms : Nat)  (x0 : Nat) (x5 : Nat) (x10 : Nat) (x12 : Int32) (x13 : Int32) (x14 : Int32) (x15 : Int32) (cd dd : Nat) (S : cS) : Prop :=
  lfp (X := Nat × Nat × Nat × Int32 × Int32 × Int32 × Int32 × Nat × Nat × cS) (fun P y => k_L_isMerged_488 Q dp mc ms  (fun b0 b1 b2 b3 b4 b5 b6 b7 b8 S => P (b0, b1, b2, b3, b4, b5, b6, b7, b8, S)) y.1 y.2.1 y.2.2.1 y.2.2.2.1 y.2.2.2.2.1 y.2.2.2.2.2.1 y.2.2.2.2.2.2.1 y.2.2.2.2.2.2.2.1 y.2.2.2.2.2.2.2.2.1 y.2.2.2.2.2.2.2.2.2) (x0, x5, x10, x12, x13, x14, x15, cd, dd, S)
def k_L_isMerged_378 (Q : Int32 → cS → Prop) (dp : Nat) (mc ms : Nat) (R378 : Nat → Nat → Nat → Nat → Nat → Nat → Nat → Nat → Int32 → Int32 → Int32 → Int32 → Nat → Nat → cS → Prop) (x0 : Nat) (x1 : Nat) (x2 : Nat) (x3 : Nat) (x4 : Nat) (x5 : Nat) (x6 : Nat) (x10 : Nat) (x12 : Int32) (x13 : Int32) (x14 : Int32) (x15 : Int32) (cd dd : Nat) (S : cS) : Prop :=
cX S x10 14 ((nI 12)) ∧ (((((cI S x10 ((nI 12)).toNatClampNeg)) ≤ x15 →
  cX S x10 14 ((nI 12)) ∧ (cX S x2 14 x13 ∧ (∀ S9 : cS, S9 = cSI S x2 (x13).toNatClampNeg ((cI S x10 ((nI 12)).toNatClampNeg)) → cX S9 x10 14 ((nI 12)) ∧ (cX S9 x4 14 x13 ∧ (∀ S10 : cS, S10 = cSI S9 x4 (x13).toNatClampNeg ((((((nI 1)) <<< (((cI S9 x10 ((nI 12)).toNatClampNeg)) &&& 31))) - ((nI 1)))) → ∀ x15_11 : Int32, x15_11 = (x12 + ((nI 3))) → k_L_isMerged_488L Q dp mc ms  x0 x5 x10 x12 x13 x14 x15_11 cd dd S10))))) ∧
 (¬ ((cI S x10 ((nI 12)).toNatClampNeg)) ≤ x15 →
  cX S x1 15 x13 ∧ (cX S x6 14 x15 ∧ (cX S x6 14 x15 ∧ ((cd ≤ mc ∧ dd ≤ ms) ∧ (k_L_record (fun r_21 S_21 => 
  cX S_21 x1 15 x13 ∧ (∀ S22 : cS, S22 = cSJ S_21 x1 (x13).toNatClampNeg ((cJ S x1 (x13).toNatClampNeg) ||| (jSl ((r_21).toInt64) ((((nI 6)) * x15)))) → cX S22 x3 14 x13 ∧ (cX S22 x6 14 x15 ∧ (cX S22 x3 14 ((((cI S22 x6 (x15).toNatClampNeg)) / ((nI 16)))) ∧ (cX S22 x6 14 x15 ∧ (cX S22 x3 14 x13 ∧ (∀ S23 : cS, S23 = cSI S22 x3 (x13).toNatClampNeg ((((cI S22 x3 (x13).toNatClampNeg)) ||| ((((((((cI S22 x3 ((((cI S22 x6 (x15).toNatClampNeg)) / ((nI 16)))).toNatClampNeg)) >>> (((((cI S22 x6 (x15).toNatClampNeg)) - ((cI S22 x6 (x15).toNatClampNeg)) / ((nI 16)) * ((nI 16)))) &&& 31))) &&& ((nI 1)))) <<< (x15 &&& 31))))) → ∀ x15_24 : Int32, x15_24 = x15 + nI 1 → R378 x0 x1 x2 x3 x4 x5 x6 x10 x12 x13 x14 x15_24 cd dd S23))))))) dp x1 ((((cI S x6 (x15).toNatClampNeg)) / ((nI 16)))) ((((cI S x6 (x15).toNatClampNeg)) - ((cI S x6 (x15).toNatClampNeg)) / ((nI 16)) * ((nI 16)))) S)))))))
def k_L_isMerged_378L (Q : Int32 → cS → Prop) (dp : Nat) (mc ms : Nat)  (x0 : Nat) (x1 : Nat) (x2 : Nat) (x3 : Nat) (x4 : Nat) (x5 : Nat) (x6 : Nat) (x10 : Nat) (x12 : Int32) (x13 : Int32) (x14 : Int32) (x15 : Int32) (cd dd : Nat) (S : cS) : Prop :=
  lfp (X := Nat × Nat × Nat × Nat × Nat × Nat × Nat × Nat × Int32 × Int32 × Int32 × Int32 × Nat × Nat × cS) (fun P y => k_L_isMerged_378 Q dp mc ms  (fun b0 b1 b2 b3 b4 b5 b6 b7 b8 b9 b10 b11 b12 b13 S => P (b0, b1, b2, b3, b4, b5, b6, b7, b8, b9, b10, b11, b12, b13, S)) y.1 y.2.1 y.2.2.1 y.2.2.2.1 y.2.2.2.2.1 y.2.2.2.2.2.1 y.2.2.2.2.2.2.1 y.2.2.2.2.2.2.2.1 y.2.2.2.2.2.2.2.2.1 y.2.2.2.2.2.2.2.2.2.1 y.2.2.2.2.2.2.2.2.2.2.1 y.2.2.2.2.2.2.2.2.2.2.2.1 y.2.2.2.2.2.2.2.2.2.2.2.2.1 y.2.2.2.2.2.2.2.2.2.2.2.2.2.1 y.2.2.2.2.2.2.2.2.2.2.2.2.2.2) (x0, x1, x2, x3, x4, x5, x6, x10, x12, x13, x14, x15, cd, dd, S)
def k_L_isMerged_363 (Q : Int32 → cS → Prop) (dp : Nat) (mc ms : Nat)  (x0 : Nat) (x1 : Nat) (x2 : Nat) (x3 : Nat) (x4 : Nat) (x5 : Nat) (x6 : Nat) (x10 : Nat) (x12 : Int32) (x13 : Int32) (t0 : Int32) (cd dd : Nat) (S : cS) : Prop :=
cX S x1 15 x13 ∧ (∀ S7 : cS, S7 = cSJ S x1 (x13).toNatClampNeg 0 → cX S7 x3 14 x13 ∧ (∀ S8 : cS, S8 = cSI S7 x3 (x13).toNatClampNeg ((nI 0)) → k_L_isMerged_378L Q dp mc ms  x0 x1 x2 x3 x4 x5 x6 x10 x12 x13 t0 (((nI 0))) cd dd S8))
def k_L_isMerged_177 (Q : Int32 → cS → Prop) (dp : Nat) (mc ms : Nat)  (t0 : Int32) (t1 : Int32) (cd dd : Nat) (S : cS) : Prop :=
((¬ t1 = t0 →
  (cd ≤ mc ∧ dd ≤ ms) ∧ (Q ((bI false)) S)) ∧
 (t1 = t0 →
  (cd ≤ mc ∧ dd ≤ ms) ∧ (Q ((bI true)) S)))
def k_L_isMerged_157 (Q : Int32 → cS → Prop) (dp : Nat) (mc ms : Nat)  (x0 : Nat) (x10 : Nat) (x13 : Int32) (cd dd : Nat) (S : cS) : Prop :=
(∃ mc37 ms38 : Nat, cd + mc37 ≤ mc ∧ dd + ms38 ≤ ms ∧ (kw_L_did (fun r_39 S_39 => 
((x13 = 0 →
  k_L_isMerged_177 Q dp mc ms  (((-7))) r_39 (cd + mc37) (dd + ms38) S_39) ∧
 (¬ x13 = 0 →
  cX S_39 x10 14 ((nI 12)) ∧ (k_L_isMerged_177 Q dp mc ms  ((cI S_39 x10 ((nI 12)).toNatClampNeg)) r_39 (cd + mc37) (dd + ms38) S_39)))) dp mc37 ms38 x0 ((nI 1)) S))
def k_L_isMerged_145 (Q : Int32 → cS → Prop) (dp : Nat) (mc ms : Nat) (R77 : Nat → Nat → Nat → Nat → Nat → Nat → Int32 → Int32 → Int32 → Nat → Nat → cS → Prop) (R89 : Nat → Nat → Nat → Nat → Nat → Nat → Int32 → Int32 → Int32 → Int32 → Nat → Nat → cS → Prop) (x0 : Nat) (x2 : Nat) (x3 : Nat) (x5 : Nat) (x6 : Nat) (x10 : Nat) (x12 : Int32) (x13 : Int32) (x14 : Int32) (x15 : Int32) (cd dd : Nat) (S : cS) : Prop :=
∀ x15_45 : Int32, x15_45 = x15 + nI 1 → R89 x0 x2 x3 x5 x6 x10 x12 x13 x14 x15_45 cd dd S
def k_L_isMerged_89 (Q : Int32 → cS → Prop) (dp : Nat) (mc ms : Nat) (R77 : Nat → Nat → Nat → Nat → Nat → Nat → Int32 → Int32 → Int32 → Nat → Nat → cS → Prop) (R89 : Nat → Nat → Nat → Nat → Nat → Nat → Int32 → Int32 → Int32 → Int32 → Nat → Nat → cS → Prop) (x0 : Nat) (x2 : Nat) (x3 : Nat) (x5 : Nat) (x6 : Nat) (x10 : Nat) (x12 : Int32) (x13 : Int32) (x14 : Int32) (x15 : Int32) (cd dd : Nat) (S : cS) : Prop :=
cX S x5 14 x14 ∧ (cX S x2 14 ((cI S x5 (x14).toNatClampNeg)) ∧ (((((cI S x2 ((cI S x5 (x14).toNatClampNeg)).toNatClampNeg)) ≤ x15 →
  ∀ x14_44 : Int32, x14_44 = x14 + nI 1 → R77 x0 x2 x3 x5 x6 x10 x12 x13 x14_44 cd dd S) ∧
 (¬ ((cI S x2 ((cI S x5 (x14).toNatClampNeg)).toNatClampNeg)) ≤ x15 →
  cX S x5 14 x14 ∧ (cX S x3 14 ((cI S x5 (x14).toNatClampNeg)) ∧ (((¬ ((((((cI S x3 ((cI S x5 (x14).toNatClampNeg)).toNatClampNeg)) >>> (x15 &&& 31))) &&& ((nI 1)))) = ((nI 1)) →
    k_L_isMerged_145 Q dp mc ms R77 R89 x0 x2 x3 x5 x6 x10 x12 x13 x14 x15 cd dd S) ∧
   (((((((cI S x3 ((cI S x5 (x14).toNatClampNeg)).toNatClampNeg)) >>> (x15 &&& 31))) &&& ((nI 1)))) = ((nI 1)) →
    cX S x10 14 ((nI 12)) ∧ (cX S x5 14 x14 ∧ (cX S x6 14 ((cI S x10 ((nI 12)).toNatClampNeg)) ∧ (∀ S46 : cS, S46 = cSI S x6 ((cI S x10 ((nI 12)).toNatClampNeg)).toNatClampNeg ((((((nI 16)) * ((cI S x5 (x14).toNatClampNeg)))) + x15)) → cX S46 x10 14 ((nI 12)) ∧ (cX S46 x10 14 ((nI 12)) ∧ (∀ S47 : cS, S47 = cSI S46 x10 ((nI 12)).toNatClampNeg ((((cI S46 x10 ((nI 12)).toNatClampNeg)) + ((nI 1)))) → k_L_isMerged_145 Q dp mc ms R77 R89 x0 x2 x3 x5 x6 x10 x12 x13 x14 x15 cd dd S47)))))))))))))
def k_L_isMerged_89L (Q : Int32 → cS → Prop) (dp : Nat) (mc ms : Nat) (R77 : Nat → Nat → Nat → Nat → Nat → Nat → Int32 → Int32 → Int32 → Nat → Nat → cS → Prop) (x0 : Nat) (x2 : Nat) (x3 : Nat) (x5 : Nat) (x6 : Nat) (x10 : Nat) (x12 : Int32) (x13 : Int32) (x14 : Int32) (x15 : Int32) (cd dd : Nat) (S : cS) : Prop :=
  lfp (X := Nat × Nat × Nat × Nat × Nat × Nat × Int32 × Int32 × Int32 × Int32 × Nat × Nat × cS) (fun P y => k_L_isMerged_89 Q dp mc ms R77 (fun b0 b1 b2 b3 b4 b5 b6 b7 b8 b9 b10 b11 S => P (b0, b1, b2, b3, b4, b5, b6, b7, b8, b9, b10, b11, S)) y.1 y.2.1 y.2.2.1 y.2.2.2.1 y.2.2.2.2.1 y.2.2.2.2.2.1 y.2.2.2.2.2.2.1 y.2.2.2.2.2.2.2.1 y.2.2.2.2.2.2.2.2.1 y.2.2.2.2.2.2.2.2.2.1 y.2.2.2.2.2.2.2.2.2.2.1 y.2.2.2.2.2.2.2.2.2.2.2.1 y.2.2.2.2.2.2.2.2.2.2.2.2) (x0, x2, x3, x5, x6, x10, x12, x13, x14, x15, cd, dd, S)
def k_L_isMerged_77 (Q : Int32 → cS → Prop) (dp : Nat) (mc ms : Nat) (R77 : Nat → Nat → Nat → Nat → Nat → Nat → Int32 → Int32 → Int32 → Nat → Nat → cS → Prop) (x0 : Nat) (x2 : Nat) (x3 : Nat) (x5 : Nat) (x6 : Nat) (x10 : Nat) (x12 : Int32) (x13 : Int32) (x14 : Int32) (cd dd : Nat) (S : cS) : Prop :=
((((x12 + ((nI 3)))) ≤ x14 →
  k_L_isMerged_157 Q dp mc ms  x0 x10 x13 cd dd S) ∧
 (¬ ((x12 + ((nI 3)))) ≤ x14 →
  k_L_isMerged_89L Q dp mc ms R77 x0 x2 x3 x5 x6 x10 x12 x13 x14 (((nI 0))) cd dd S))
def k_L_isMerged_77L (Q : Int32 → cS → Prop) (dp : Nat) (mc ms : Nat)  (x0 : Nat) (x2 : Nat) (x3 : Nat) (x5 : Nat) (x6 : Nat) (x10 : Nat) (x12 : Int32) (x13 : Int32) (x14 : Int32) (cd dd : Nat) (S : cS) : Prop :=
  lfp (X := Nat × Nat × Nat × Nat × Nat × Nat × Int32 × Int32 × Int32 × Nat × Nat × cS) (fun P y => k_L_isMerged_77 Q dp mc ms  (fun b0 b1 b2 b3 b4 b5 b6 b7 b8 b9 b10 S => P (b0, b1, b2, b3, b4, b5, b6, b7, b8, b9, b10, S)) y.1 y.2.1 y.2.2.1 y.2.2.2.1 y.2.2.2.2.1 y.2.2.2.2.2.1 y.2.2.2.2.2.2.1 y.2.2.2.2.2.2.2.1 y.2.2.2.2.2.2.2.2.1 y.2.2.2.2.2.2.2.2.2.1 y.2.2.2.2.2.2.2.2.2.2.1 y.2.2.2.2.2.2.2.2.2.2.2) (x0, x2, x3, x5, x6, x10, x12, x13, x14, cd, dd, S)
def k_L_isMerged_41 (Q : Int32 → cS → Prop) (dp : Nat) (mc ms : Nat)  (x0 : Nat) (x2 : Nat) (x3 : Nat) (x5 : Nat) (x6 : Nat) (x10 : Nat) (x12 : Int32) (t0 : Int32) (cd dd : Nat) (S : cS) : Prop :=
((t0 = 0 →
  k_L_isMerged_157 Q dp mc ms  x0 x10 t0 cd dd S) ∧
 (¬ t0 = 0 →
  cX S x10 14 ((nI 9)) ∧ (∀ S40 : cS, S40 = cSI S x10 ((nI 9)).toNatClampNeg ((nI 1)) → cX S40 x10 14 ((nI 10)) ∧ (∀ S41 : cS, S41 = cSI S40 x10 ((nI 10)).toNatClampNeg x12 → cX S41 x10 14 ((nI 11)) ∧ (∀ S42 : cS, S42 = cSI S41 x10 ((nI 11)).toNatClampNeg ((nI 0)) → cX S42 x10 14 ((nI 12)) ∧ (∀ S43 : cS, S43 = cSI S42 x10 ((nI 12)).toNatClampNeg ((nI 0)) → k_L_isMerged_77L Q dp mc ms  x0 x2 x3 x5 x6 x10 x12 t0 x12 cd dd S43))))))
def k_L_isMerged_40 (Q : Int32 → cS → Prop) (dp : Nat) (mc ms : Nat)  (x0 : Nat) (x2 : Nat) (x3 : Nat) (x5 : Nat) (x6 : Nat) (x10 : Nat) (x12 : Int32) (cd dd : Nat) (S : cS) : Prop :=
k_L_isMerged_41 Q dp mc ms  x0 x2 x3 x5 x6 x10 x12 ((nI 0)) cd dd S
def k_L_isMerged (Q : Int32 → cS → Prop) (dp : Nat) (mc ms : Nat) (x0 : Nat) (x1 : Nat) (x2 : Nat) (x3 : Nat) (x4 : Nat) (x5 : Nat) (x6 : Nat) (x7 : Nat) (x8 : Nat) (x9 : Nat) (x10 : Nat) (x11 : Int32) (S : cS) : Prop :=
((¬ x11 = 0 →
  cX S x10 14 ((nI 6)) ∧ (((((cI S x10 ((nI 6)).toNatClampNeg)) = ((nI 1)) →
    k_L_isMerged_203 Q dp mc ms  x0 x11 0 0 S) ∧
   (¬ ((cI S x10 ((nI 6)).toNatClampNeg)) = ((nI 1)) →
    cX S x10 14 ((nI 9)) ∧ (((¬ ((cI S x10 ((nI 9)).toNatClampNeg)) = 0 →
      ((¬ x11 = ((nI 2)) →
        (0 ≤ mc ∧ 0 ≤ ms) ∧ (k_L_writes (fun r_4 S_4 => 
        ((¬ r_4 = 0 →
          cX S_4 x10 14 ((nI 11)) ∧ (cX S_4 x10 14 ((nI 12)) ∧ (((((cI S_4 x10 ((nI 12)).toNatClampNeg)) ≤ ((cI S_4 x10 ((nI 11)).toNatClampNeg)) →
            cX S_4 x10 14 ((nI 10)) ∧ (∀ x12_5 : Int32, x12_5 = (cI S_4 x10 ((nI 10)).toNatClampNeg) → cX S_4 x10 14 ((nI 2)) ∧ (∀ x13_6 : Int32, x13_6 = (cI S_4 x10 ((nI 2)).toNatClampNeg) → cX S_4 x10 14 ((nI 12)) ∧ (((¬ ((cI S_4 x10 ((nI 12)).toNatClampNeg)) = 0 →
              k_L_isMerged_363 Q dp mc ms  x0 x1 x2 x3 x4 x5 x6 x10 x12_5 x13_6 ((nI 2)) 0 0 S_4) ∧
             (((cI S_4 x10 ((nI 12)).toNatClampNeg)) = 0 →
              k_L_isMerged_363 Q dp mc ms  x0 x1 x2 x3 x4 x5 x6 x10 x12_5 x13_6 ((nI 3)) 0 0 S_4)))))) ∧
           (¬ ((cI S_4 x10 ((nI 12)).toNatClampNeg)) ≤ ((cI S_4 x10 ((nI 11)).toNatClampNeg)) →
            cX S_4 x10 14 ((nI 11)) ∧ (cX S_4 x10 14 ((nI 11)) ∧ (∀ S25 : cS, S25 = cSI S_4 x10 ((nI 11)).toNatClampNeg ((((cI S_4 x10 ((nI 11)).toNatClampNeg)) + ((nI 1)))) → (∃ mc26 ms27 : Nat, 0 + mc26 ≤ mc ∧ 0 + ms27 ≤ ms ∧ (kw_L_did (fun r_28 S_28 => 
            cX S_28 x10 14 ((nI 12)) ∧ (cX S_28 x10 14 ((nI 11)) ∧ (((¬ r_28 = ((((cI S_28 x10 ((nI 12)).toNatClampNeg)) - ((cI S_28 x10 ((nI 11)).toNatClampNeg)))) →
              (0 + mc26 ≤ mc ∧ 0 + ms27 ≤ ms) ∧ (Q ((bI false)) S_28)) ∧
             (r_28 = ((((cI S_28 x10 ((nI 12)).toNatClampNeg)) - ((cI S_28 x10 ((nI 11)).toNatClampNeg)))) →
              (0 + mc26 ≤ mc ∧ 0 + ms27 ≤ ms) ∧ (Q ((bI true)) S_28)))))) dp mc26 ms27 x0 ((nI 2)) S25))))))))) ∧
         (r_4 = 0 →
          (∃ mc29 ms30 : Nat, 0 + mc29 ≤ mc ∧ 0 + ms30 ≤ ms ∧ (kw_L_did (fun r_31 S_31 => 
          ((¬ r_31 = (((-2))) →
            (0 + mc29 ≤ mc ∧ 0 + ms30 ≤ ms) ∧ (Q ((bI false)) S_31)) ∧
           (r_31 = (((-2))) →
            (0 + mc29 ≤ mc ∧ 0 + ms30 ≤ ms) ∧ (Q ((bI true)) S_31)))) dp mc29 ms30 x0 ((nI 2)) S_4))))) dp x10 x7 x8 x9 S)) ∧
       (x11 = ((nI 2)) →
        cX S x10 14 ((nI 9)) ∧ (∀ S32 : cS, S32 = cSI S x10 ((nI 9)).toNatClampNeg ((nI 0)) → (∃ mc33 ms34 : Nat, 0 + mc33 ≤ mc ∧ 0 + ms34 ≤ ms ∧ (kw_L_did (fun r_35 S_35 => 
        cX S_35 x10 14 ((nI 11)) ∧ (((¬ r_35 = ((cI S_35 x10 ((nI 11)).toNatClampNeg)) →
          (0 + mc33 ≤ mc ∧ 0 + ms34 ≤ ms) ∧ (Q ((bI false)) S_35)) ∧
         (r_35 = ((cI S_35 x10 ((nI 11)).toNatClampNeg)) →
          (0 + mc33 ≤ mc ∧ 0 + ms34 ≤ ms) ∧ (Q ((bI true)) S_35))))) dp mc33 ms34 x0 ((nI 3)) S32)))))) ∧
     (((cI S x10 ((nI 9)).toNatClampNeg)) = 0 →
      k_L_isMerged_203 Q dp mc ms  x0 x11 0 0 S))))))) ∧
 (x11 = 0 →
  (0 ≤ mc ∧ 0 ≤ ms) ∧ (k_L_due (fun r_36 S_36 => 
  cX S_36 x10 14 ((nI 6)) ∧ (((¬ ((cI S_36 x10 ((nI 6)).toNatClampNeg)) = 0 →
    k_L_isMerged_40 Q dp mc ms  x0 x2 x3 x5 x6 x10 r_36 0 0 S_36) ∧
   (((cI S_36 x10 ((nI 6)).toNatClampNeg)) = 0 →
    ((r_36 < 0 →
      k_L_isMerged_40 Q dp mc ms  x0 x2 x3 x5 x6 x10 r_36 0 0 S_36) ∧
     (¬ r_36 < 0 →
      cX S_36 x10 14 ((nI 9)) ∧ (((¬ ((cI S_36 x10 ((nI 9)).toNatClampNeg)) = 0 →
        k_L_isMerged_40 Q dp mc ms  x0 x2 x3 x5 x6 x10 r_36 0 0 S_36) ∧
       (((cI S_36 x10 ((nI 9)).toNatClampNeg)) = 0 →
        k_L_isMerged_41 Q dp mc ms  x0 x2 x3 x5 x6 x10 r_36 ((nI 1)) 0 0 S_36))))))))) dp x2 x5 x10 S)))
def k_L_copy_7 (Q : Nat → cS → Prop) (dp : Nat) (mc ms : Nat) (R7 : Nat → Nat → Int32 → Nat → Nat → cS → Prop) (x0 : Nat) (x1 : Nat) (x2 : Int32) (cd dd : Nat) (S : cS) : Prop :=
((((nI 64)) ≤ x2 →
  (cd ≤ mc ∧ dd ≤ ms) ∧ (Q x1 S)) ∧
 (¬ ((nI 64)) ≤ x2 →
  cX S x0 14 x2 ∧ (cX S x1 14 x2 ∧ (∀ S4 : cS, S4 = cSI S x1 (x2).toNatClampNeg ((cI S x0 (x2).toNatClampNeg)) → ∀ x2_5 : Int32, x2_5 = x2 + nI 1 → R7 x0 x1 x2_5 cd dd S4))))
def k_L_copy_7L (Q : Nat → cS → Prop) (dp : Nat) (mc ms : Nat)  (x0 : Nat) (x1 : Nat) (x2 : Int32) (cd dd : Nat) (S : cS) : Prop :=
  lfp (X := Nat × Nat × Int32 × Nat × Nat × cS) (fun P y => k_L_copy_7 Q dp mc ms  (fun b0 b1 b2 b3 b4 S => P (b0, b1, b2, b3, b4, S)) y.1 y.2.1 y.2.2.1 y.2.2.2.1 y.2.2.2.2.1 y.2.2.2.2.2) (x0, x1, x2, cd, dd, S)
def k_L_copy (Q : Nat → cS → Prop) (dp : Nat) (mc ms : Nat) (x0 : Nat) (S : cS) : Prop :=
(∃ n1 : Nat, (nI 64) = nI n1 ∧ n1 < 2 ^ 20 ∧ 0 + 1 ≤ mc ∧ 0 + n1 ≤ ms ∧ (∀ q2 : Nat, q2 ∉ cL S → ∀ S3 : cS, S3 = cNewA S q2 14 n1 → k_L_copy_7L Q dp mc ms  x0 q2 (((nI 0))) (0 + 1) (0 + n1) S3))
def k_L_isCommitted_276 (Q : Int32 → cS → Prop) (dp : Nat) (mc ms : Nat)  (x0 : Nat) (cd dd : Nat) (S : cS) : Prop :=
(∃ mc1 ms2 : Nat, cd + mc1 ≤ mc ∧ dd + ms2 ≤ ms ∧ (kw_L_did (fun r_3 S_3 => 
((¬ r_3 = (((-7))) →
  (cd + mc1 ≤ mc ∧ dd + ms2 ≤ ms) ∧ (Q ((bI false)) S_3)) ∧
 (r_3 = (((-7))) →
  (cd + mc1 ≤ mc ∧ dd + ms2 ≤ ms) ∧ (Q ((bI true)) S_3)))) dp mc1 ms2 x0 ((nI 5)) S))
def k_L_isCommitted_442 (Q : Int32 → cS → Prop) (dp : Nat) (mc ms : Nat)  (t0 : Int32) (t1 : Int32) (cd dd : Nat) (S : cS) : Prop :=
((¬ t1 = t0 →
  (cd ≤ mc ∧ dd ≤ ms) ∧ (Q ((bI false)) S)) ∧
 (t1 = t0 →
  (cd ≤ mc ∧ dd ≤ ms) ∧ (Q ((bI true)) S)))
def k_L_isCommitted_417 (Q : Int32 → cS → Prop) (dp : Nat) (mc ms : Nat)  (x0 : Nat) (x9 : Nat) (x12 : Nat) (x15 : Int32) (cd dd : Nat) (S : cS) : Prop :=
cX S x9 14 ((nI 0)) ∧ (∀ S8 : cS, S8 = cSI S x9 ((nI 0)).toNatClampNeg ((nI 0)) → (∃ mc9 ms10 : Nat, cd + mc9 ≤ mc ∧ dd + ms10 ≤ ms ∧ (kw_L_did (fun r_11 S_11 => 
((x15 = 0 →
  k_L_isCommitted_442 Q dp mc ms  (((-2))) r_11 (cd + mc9) (dd + ms10) S_11) ∧
 (¬ x15 = 0 →
  cX S_11 x12 14 ((nI 7)) ∧ (k_L_isCommitted_442 Q dp mc ms  ((cI S_11 x12 ((nI 7)).toNatClampNeg)) r_11 (cd + mc9) (dd + ms10) S_11)))) dp mc9 ms10 x0 ((nI 5)) S8)))
def k_L_isCommitted_385 (Q : Int32 → cS → Prop) (dp : Nat) (mc ms : Nat) (R385 : Nat → Nat → Nat → Nat → Int32 → Int32 → Nat → Nat → cS → Prop) (x0 : Nat) (x8 : Nat) (x9 : Nat) (x12 : Nat) (x15 : Int32) (x16 : Int32) (cd dd : Nat) (S : cS) : Prop :=
((((nI 64)) ≤ x16 →
  cX S x12 14 ((nI 7)) ∧ (cX S x12 14 ((nI 7)) ∧ (∀ S12 : cS, S12 = cSI S x12 ((nI 7)).toNatClampNeg ((((cI S x12 ((nI 7)).toNatClampNeg)) + ((nI 1)))) → k_L_isCommitted_417 Q dp mc ms  x0 x9 x12 x15 cd dd S12))) ∧
 (¬ ((nI 64)) ≤ x16 →
  cX S x9 14 x16 ∧ (cX S x8 14 x16 ∧ (∀ S13 : cS, S13 = cSI S x8 (x16).toNatClampNeg ((cI S x9 (x16).toNatClampNeg)) → ∀ x16_14 : Int32, x16_14 = x16 + nI 1 → R385 x0 x8 x9 x12 x15 x16_14 cd dd S13))))
def k_L_isCommitted_385L (Q : Int32 → cS → Prop) (dp : Nat) (mc ms : Nat)  (x0 : Nat) (x8 : Nat) (x9 : Nat) (x12 : Nat) (x15 : Int32) (x16 : Int32) (cd dd : Nat) (S : cS) : Prop :=
  lfp (X := Nat × Nat × Nat × Nat × Int32 × Int32 × Nat × Nat × cS) (fun P y => k_L_isCommitted_385 Q dp mc ms  (fun b0 b1 b2 b3 b4 b5 b6 b7 S => P (b0, b1, b2, b3, b4, b5, b6, b7, S)) y.1 y.2.1 y.2.2.1 y.2.2.2.1 y.2.2.2.2.1 y.2.2.2.2.2.1 y.2.2.2.2.2.2.1 y.2.2.2.2.2.2.2.1 y.2.2.2.2.2.2.2.2) (x0, x8, x9, x12, x15, x16, cd, dd, S)
def k_L_isCommitted_301 (Q : Int32 → cS → Prop) (dp : Nat) (mc ms : Nat) (R301 : Nat → Nat → Nat → Nat → Int32 → Nat → Nat → cS → Prop) (x0 : Nat) (x6 : Nat) (x9 : Nat) (x13 : Nat) (x15 : Int32) (cd dd : Nat) (S : cS) : Prop :=
cX S x9 14 ((nI 1)) ∧ (((((cI S x9 ((nI 1)).toNatClampNeg)) ≤ x15 →
  cX S x9 14 ((nI 0)) ∧ (∀ S15 : cS, S15 = cSI S x9 ((nI 0)).toNatClampNeg ((nI 0)) → cA S15 x0 11 ∧ ((cd ≤ mc ∧ dd ≤ ms) ∧ (k_X11_drop (fun S_16 => 
  (∃ mc17 ms18 : Nat, cd + mc17 ≤ mc ∧ dd + ms18 ≤ ms ∧ (kw_L_did (fun r_19 S_19 => 
  ((¬ r_19 = (((-7))) →
    (cd + mc17 ≤ mc ∧ dd + ms18 ≤ ms) ∧ (Q ((bI false)) S_19)) ∧
   (r_19 = (((-7))) →
    (cd + mc17 ≤ mc ∧ dd + ms18 ≤ ms) ∧ (Q ((bI true)) S_19)))) dp mc17 ms18 x0 ((nI 5)) S_16))) dp x0 S15)))) ∧
 (¬ ((cI S x9 ((nI 1)).toNatClampNeg)) ≤ x15 →
  cX S x9 14 ((((nI 2)) + x15)) ∧ (cX S x9 14 ((((nI 2)) + x15)) ∧ (cX S x13 14 ((cI S x9 ((((nI 2)) + x15)).toNatClampNeg)) ∧ (cX S x6 14 ((cI S x9 ((((nI 2)) + x15)).toNatClampNeg)) ∧ (∀ S20 : cS, S20 = cSI S x6 ((cI S x9 ((((nI 2)) + x15)).toNatClampNeg)).toNatClampNeg ((cI S x13 ((cI S x9 ((((nI 2)) + x15)).toNatClampNeg)).toNatClampNeg)) → ∀ x15_21 : Int32, x15_21 = x15 + nI 1 → R301 x0 x6 x9 x13 x15_21 cd dd S20)))))))
def k_L_isCommitted_301L (Q : Int32 → cS → Prop) (dp : Nat) (mc ms : Nat)  (x0 : Nat) (x6 : Nat) (x9 : Nat) (x13 : Nat) (x15 : Int32) (cd dd : Nat) (S : cS) : Prop :=
  lfp (X := Nat × Nat × Nat × Nat × Int32 × Nat × Nat × cS) (fun P y => k_L_isCommitted_301 Q dp mc ms  (fun b0 b1 b2 b3 b4 b5 b6 S => P (b0, b1, b2, b3, b4, b5, b6, S)) y.1 y.2.1 y.2.2.1 y.2.2.2.1 y.2.2.2.2.1 y.2.2.2.2.2.1 y.2.2.2.2.2.2.1 y.2.2.2.2.2.2.2) (x0, x6, x9, x13, x15, cd, dd, S)
def k_L_isCommitted_22 (Q : Int32 → cS → Prop) (dp : Nat) (mc ms : Nat)  (x0 : Nat) (cd dd : Nat) (S : cS) : Prop :=
(∃ mc22 ms23 : Nat, cd + mc22 ≤ mc ∧ dd + ms23 ≤ ms ∧ (kw_L_did (fun r_24 S_24 => 
((¬ r_24 = (((-7))) →
  (cd + mc22 ≤ mc ∧ dd + ms23 ≤ ms) ∧ (Q ((bI false)) S_24)) ∧
 (r_24 = (((-7))) →
  (cd + mc22 ≤ mc ∧ dd + ms23 ≤ ms) ∧ (Q ((bI true)) S_24)))) dp mc22 ms23 x0 ((nI 4)) S))
def k_L_isCommitted_244 (Q : Int32 → cS → Prop) (dp : Nat) (mc ms : Nat)  (x0 : Nat) (x15 : Int32) (cd dd : Nat) (S : cS) : Prop :=
(∃ mc26 ms27 : Nat, cd + mc26 ≤ mc ∧ dd + ms27 ≤ ms ∧ (kw_L_did (fun r_28 S_28 => 
((¬ r_28 = x15 →
  (cd + mc26 ≤ mc ∧ dd + ms27 ≤ ms) ∧ (Q ((bI false)) S_28)) ∧
 (r_28 = x15 →
  (cd + mc26 ≤ mc ∧ dd + ms27 ≤ ms) ∧ (Q ((bI true)) S_28)))) dp mc26 ms27 x0 ((nI 4)) S))
def k_L_isCommitted_219 (Q : Int32 → cS → Prop) (dp : Nat) (mc ms : Nat)  (x0 : Nat) (x5 : Nat) (x7 : Nat) (x9 : Nat) (x12 : Nat) (t0 : Int32) (cd dd : Nat) (S : cS) : Prop :=
((t0 = (((-2))) →
  k_L_isCommitted_244 Q dp mc ms  x0 t0 cd dd S) ∧
 (¬ t0 = (((-2))) →
  cX S x9 14 ((nI 0)) ∧ (∀ S29 : cS, S29 = cSI S x9 ((nI 0)).toNatClampNeg ((nI 1)) → (cd ≤ mc ∧ dd ≤ ms) ∧ (k_L_names (fun S_30 => 
  k_L_isCommitted_244 Q dp mc ms  x0 t0 cd dd S_30) dp x9 x7 x5 x12 S29))))
def k_L_isCommitted_210 (Q : Int32 → cS → Prop) (dp : Nat) (mc ms : Nat)  (x0 : Nat) (x5 : Nat) (x7 : Nat) (x9 : Nat) (x12 : Nat) (cd dd : Nat) (S : cS) : Prop :=
k_L_isCommitted_219 Q dp mc ms  x0 x5 x7 x9 x12 (((-2))) cd dd S
def k_L_isCommitted_189 (Q : Int32 → cS → Prop) (dp : Nat) (mc ms : Nat)  (x0 : Nat) (x5 : Nat) (x7 : Nat) (x9 : Nat) (x10 : Nat) (x11 : Nat) (x12 : Nat) (x15 : Int32) (cd dd : Nat) (S : cS) : Prop :=
((x15 = (((-2))) →
  k_L_isCommitted_210 Q dp mc ms  x0 x5 x7 x9 x12 cd dd S) ∧
 (¬ x15 = (((-2))) →
  (cd ≤ mc ∧ dd ≤ ms) ∧ (k_L_writes (fun r_31 S_31 => 
  ((¬ r_31 = 0 →
    cX S_31 x12 14 ((nI 3)) ∧ (k_L_isCommitted_219 Q dp mc ms  x0 x5 x7 x9 x12 ((cI S_31 x12 ((nI 3)).toNatClampNeg)) cd dd S_31)) ∧
   (r_31 = 0 →
    k_L_isCommitted_210 Q dp mc ms  x0 x5 x7 x9 x12 cd dd S_31))) dp x12 x9 x10 x11 S)))
def k_L_isCommitted_183 (Q : Int32 → cS → Prop) (dp : Nat) (mc ms : Nat) (R91 : Nat → Nat → Nat → Nat → Nat → Nat → Nat → Nat → Int32 → Int32 → Nat → Nat → cS → Prop) (x0 : Nat) (x5 : Nat) (x6 : Nat) (x7 : Nat) (x9 : Nat) (x10 : Nat) (x11 : Nat) (x12 : Nat) (x15 : Int32) (x16 : Int32) (cd dd : Nat) (S : cS) : Prop :=
∀ x16_32 : Int32, x16_32 = x16 + nI 1 → R91 x0 x5 x6 x7 x9 x10 x11 x12 x15 x16_32 cd dd S
def k_L_isCommitted_182 (Q : Int32 → cS → Prop) (dp : Nat) (mc ms : Nat) (R91 : Nat → Nat → Nat → Nat → Nat → Nat → Nat → Nat → Int32 → Int32 → Nat → Nat → cS → Prop) (x0 : Nat) (x5 : Nat) (x6 : Nat) (x7 : Nat) (x9 : Nat) (x10 : Nat) (x11 : Nat) (x12 : Nat) (x15 : Int32) (x16 : Int32) (t0 : Int32) (t1 : Int32) (t2 : Nat) (cd dd : Nat) (S : cS) : Prop :=
cX S t2 14 t1 ∧ (∀ S34 : cS, S34 = cSI S t2 (t1).toNatClampNeg t0 → k_L_isCommitted_183 Q dp mc ms R91 x0 x5 x6 x7 x9 x10 x11 x12 x15 x16 cd dd S34)
def k_L_isCommitted_147 (Q : Int32 → cS → Prop) (dp : Nat) (mc ms : Nat) (R91 : Nat → Nat → Nat → Nat → Nat → Nat → Nat → Nat → Int32 → Int32 → Nat → Nat → cS → Prop) (x0 : Nat) (x5 : Nat) (x6 : Nat) (x7 : Nat) (x9 : Nat) (x10 : Nat) (x11 : Nat) (x12 : Nat) (x16 : Int32) (t0 : Int32) (cd dd : Nat) (S : cS) : Prop :=
cX S x7 14 x16 ∧ (((¬ t0 = (((-2))) →
  cX S x7 14 x16 ∧ (cX S x5 14 ((cI S x7 (x16).toNatClampNeg)) ∧ (k_L_isCommitted_182 Q dp mc ms R91 x0 x5 x6 x7 x9 x10 x11 x12 t0 x16 ((cI S x5 ((cI S x7 (x16).toNatClampNeg)).toNatClampNeg)) ((cI S x7 (x16).toNatClampNeg)) x6 cd dd S))) ∧
 (t0 = (((-2))) →
  cX S x7 14 x16 ∧ (cX S x6 14 ((cI S x7 (x16).toNatClampNeg)) ∧ (k_L_isCommitted_182 Q dp mc ms R91 x0 x5 x6 x7 x9 x10 x11 x12 t0 x16 ((cI S x6 ((cI S x7 (x16).toNatClampNeg)).toNatClampNeg)) ((cI S x7 (x16).toNatClampNeg)) x6 cd dd S)))))
def k_L_isCommitted_91 (Q : Int32 → cS → Prop) (dp : Nat) (mc ms : Nat) (R91 : Nat → Nat → Nat → Nat → Nat → Nat → Nat → Nat → Int32 → Int32 → Nat → Nat → cS → Prop) (x0 : Nat) (x5 : Nat) (x6 : Nat) (x7 : Nat) (x9 : Nat) (x10 : Nat) (x11 : Nat) (x12 : Nat) (x15 : Int32) (x16 : Int32) (cd dd : Nat) (S : cS) : Prop :=
cX S x12 14 ((nI 3)) ∧ (((((cI S x12 ((nI 3)).toNatClampNeg)) ≤ x16 →
  k_L_isCommitted_189 Q dp mc ms  x0 x5 x7 x9 x10 x11 x12 x15 cd dd S) ∧
 (¬ ((cI S x12 ((nI 3)).toNatClampNeg)) ≤ x16 →
  ((x15 ≤ (((-2))) →
    k_L_isCommitted_189 Q dp mc ms  x0 x5 x7 x9 x10 x11 x12 x15 cd dd S) ∧
   (¬ x15 ≤ (((-2))) →
    cX S x7 14 x16 ∧ (cX S x5 14 ((cI S x7 (x16).toNatClampNeg)) ∧ (cX S x7 14 x16 ∧ (cX S x6 14 ((cI S x7 (x16).toNatClampNeg)) ∧ (((((cI S x5 ((cI S x7 (x16).toNatClampNeg)).toNatClampNeg)) = ((cI S x6 ((cI S x7 (x16).toNatClampNeg)).toNatClampNeg)) →
      k_L_isCommitted_183 Q dp mc ms R91 x0 x5 x6 x7 x9 x10 x11 x12 x15 x16 cd dd S) ∧
     (¬ ((cI S x5 ((cI S x7 (x16).toNatClampNeg)).toNatClampNeg)) = ((cI S x6 ((cI S x7 (x16).toNatClampNeg)).toNatClampNeg)) →
      (cd ≤ mc ∧ dd ≤ ms) ∧ (k_L_writes (fun r_33 S_33 => 
      ((r_33 = 0 →
        k_L_isCommitted_147 Q dp mc ms R91 x0 x5 x6 x7 x9 x10 x11 x12 x16 (((-2))) cd dd S_33) ∧
       (¬ r_33 = 0 →
        k_L_isCommitted_147 Q dp mc ms R91 x0 x5 x6 x7 x9 x10 x11 x12 x16 x15 cd dd S_33))) dp x12 x9 x10 x11 S))))))))))))
def k_L_isCommitted_91L (Q : Int32 → cS → Prop) (dp : Nat) (mc ms : Nat)  (x0 : Nat) (x5 : Nat) (x6 : Nat) (x7 : Nat) (x9 : Nat) (x10 : Nat) (x11 : Nat) (x12 : Nat) (x15 : Int32) (x16 : Int32) (cd dd : Nat) (S : cS) : Prop :=
  lfp (X := Nat × Nat × Nat × Nat × Nat × Nat × Nat × Nat × Int32 × Int32 × Nat × Nat × cS) (fun P y => k_L_isCommitted_91 Q dp mc ms  (fun b0 b1 b2 b3 b4 b5 b6 b7 b8 b9 b10 b11 S => P (b0, b1, b2, b3, b4, b5, b6, b7, b8, b9, b10, b11, S)) y.1 y.2.1 y.2.2.1 y.2.2.2.1 y.2.2.2.2.1 y.2.2.2.2.2.1 y.2.2.2.2.2.2.1 y.2.2.2.2.2.2.2.1 y.2.2.2.2.2.2.2.2.1 y.2.2.2.2.2.2.2.2.2.1 y.2.2.2.2.2.2.2.2.2.2.1 y.2.2.2.2.2.2.2.2.2.2.2.1 y.2.2.2.2.2.2.2.2.2.2.2.2) (x0, x5, x6, x7, x9, x10, x11, x12, x15, x16, cd, dd, S)
def k_L_isCommitted_65 (Q : Int32 → cS → Prop) (dp : Nat) (mc ms : Nat) (R65 : Nat → Nat → Nat → Nat → Nat → Nat → Nat → Nat → Nat → Int32 → Int32 → Nat → Nat → cS → Prop) (x0 : Nat) (x5 : Nat) (x6 : Nat) (x7 : Nat) (x9 : Nat) (x10 : Nat) (x11 : Nat) (x12 : Nat) (x13 : Nat) (x15 : Int32) (x16 : Int32) (cd dd : Nat) (S : cS) : Prop :=
((((nI 30)) ≤ x16 →
  k_L_isCommitted_91L Q dp mc ms  x0 x5 x6 x7 x9 x10 x11 x12 x15 (((nI 0))) cd dd S) ∧
 (¬ ((nI 30)) ≤ x16 →
  cX S x6 14 x16 ∧ (cX S x13 14 x16 ∧ (∀ S35 : cS, S35 = cSI S x13 (x16).toNatClampNeg ((cI S x6 (x16).toNatClampNeg)) → ∀ x16_36 : Int32, x16_36 = x16 + nI 1 → R65 x0 x5 x6 x7 x9 x10 x11 x12 x13 x15 x16_36 cd dd S35))))
def k_L_isCommitted_65L (Q : Int32 → cS → Prop) (dp : Nat) (mc ms : Nat)  (x0 : Nat) (x5 : Nat) (x6 : Nat) (x7 : Nat) (x9 : Nat) (x10 : Nat) (x11 : Nat) (x12 : Nat) (x13 : Nat) (x15 : Int32) (x16 : Int32) (cd dd : Nat) (S : cS) : Prop :=
  lfp (X := Nat × Nat × Nat × Nat × Nat × Nat × Nat × Nat × Nat × Int32 × Int32 × Nat × Nat × cS) (fun P y => k_L_isCommitted_65 Q dp mc ms  (fun b0 b1 b2 b3 b4 b5 b6 b7 b8 b9 b10 b11 b12 S => P (b0, b1, b2, b3, b4, b5, b6, b7, b8, b9, b10, b11, b12, S)) y.1 y.2.1 y.2.2.1 y.2.2.2.1 y.2.2.2.2.1 y.2.2.2.2.2.1 y.2.2.2.2.2.2.1 y.2.2.2.2.2.2.2.1 y.2.2.2.2.2.2.2.2.1 y.2.2.2.2.2.2.2.2.2.1 y.2.2.2.2.2.2.2.2.2.2.1 y.2.2.2.2.2.2.2.2.2.2.2.1 y.2.2.2.2.2.2.2.2.2.2.2.2.1 y.2.2.2.2.2.2.2.2.2.2.2.2.2) (x0, x5, x6, x7, x9, x10, x11, x12, x13, x15, x16, cd, dd, S)
def k_L_isCommitted (Q : Int32 → cS → Prop) (dp : Nat) (mc ms : Nat) (x0 : Nat) (x1 : Nat) (x2 : Nat) (x3 : Nat) (x4 : Nat) (x5 : Nat) (x6 : Nat) (x7 : Nat) (x8 : Nat) (x9 : Nat) (x10 : Nat) (x11 : Nat) (x12 : Nat) (x13 : Nat) (x14 : Int32) (S : cS) : Prop :=
((¬ x14 = 0 →
  cX S x12 14 ((nI 6)) ∧ (((((cI S x12 ((nI 6)).toNatClampNeg)) = ((nI 1)) →
    k_L_isCommitted_276 Q dp mc ms  x0 0 0 S) ∧
   (¬ ((cI S x12 ((nI 6)).toNatClampNeg)) = ((nI 1)) →
    cX S x9 14 ((nI 0)) ∧ (((¬ ((cI S x9 ((nI 0)).toNatClampNeg)) = 0 →
      ((¬ x14 = ((nI 2)) →
        (∃ mc4 ms5 : Nat, 0 + mc4 ≤ mc ∧ 0 + ms5 ≤ ms ∧ (k_L_copy (fun r_6 S_6 => 
        (0 + mc4 ≤ mc ∧ 0 + ms5 ≤ ms) ∧ (k_L_writes (fun r_7 S_7 => 
        ((r_7 = 0 →
          k_L_isCommitted_417 Q dp mc ms  x0 x9 x12 r_7 (0 + mc4) (0 + ms5) S_7) ∧
         (¬ r_7 = 0 →
          k_L_isCommitted_385L Q dp mc ms  x0 x8 x9 x12 r_7 (((nI 0))) (0 + mc4) (0 + ms5) S_7))) dp x12 r_6 x10 x11 S_6)) dp mc4 ms5 x9 S))) ∧
       (x14 = ((nI 2)) →
        k_L_isCommitted_301L Q dp mc ms  x0 x6 x9 x13 (((nI 0))) 0 0 S))) ∧
     (((cI S x9 ((nI 0)).toNatClampNeg)) = 0 →
      k_L_isCommitted_276 Q dp mc ms  x0 0 0 S))))))) ∧
 (x14 = 0 →
  cX S x12 14 ((nI 6)) ∧ (((((cI S x12 ((nI 6)).toNatClampNeg)) = ((nI 1)) →
    k_L_isCommitted_22 Q dp mc ms  x0 0 0 S) ∧
   (¬ ((cI S x12 ((nI 6)).toNatClampNeg)) = ((nI 1)) →
    cX S x9 14 ((nI 0)) ∧ (((¬ ((cI S x9 ((nI 0)).toNatClampNeg)) = ((nI 1)) →
      (0 ≤ mc ∧ 0 ≤ ms) ∧ (k_L_flushed (fun r_25 S_25 => 
      k_L_isCommitted_65L Q dp mc ms  x0 x5 x6 x7 x9 x10 x11 x12 x13 r_25 (((nI 0))) 0 0 S_25) dp x1 x2 x3 x4 x5 x6 x7 x9 x10 x11 x12 S)) ∧
     (((cI S x9 ((nI 0)).toNatClampNeg)) = ((nI 1)) →
      k_L_isCommitted_22 Q dp mc ms  x0 0 0 S))))))))
def k_L_opens_59 (Q : Int32 → cS → Prop) (dp : Nat) (mc ms : Nat) (R59 : Nat → Nat → Nat → Nat → Nat → Nat → Int32 → Nat → Nat → cS → Prop) (x0 : Nat) (x1 : Nat) (x2 : Nat) (x3 : Nat) (x4 : Nat) (x5 : Nat) (x6 : Int32) (cd dd : Nat) (S : cS) : Prop :=
cX S x5 14 ((nI 3)) ∧ (((((cI S x5 ((nI 3)).toNatClampNeg)) ≤ x6 →
  (∃ mc4 ms5 : Nat, cd + mc4 ≤ mc ∧ dd + ms5 ≤ ms ∧ (kw_L_did (fun r_6 S_6 => 
  cX S_6 x5 14 ((nI 3)) ∧ (((¬ r_6 = ((cI S_6 x5 ((nI 3)).toNatClampNeg)) →
    (cd + mc4 ≤ mc ∧ dd + ms5 ≤ ms) ∧ (Q ((bI false)) S_6)) ∧
   (r_6 = ((cI S_6 x5 ((nI 3)).toNatClampNeg)) →
    (cd + mc4 ≤ mc ∧ dd + ms5 ≤ ms) ∧ (Q ((bI true)) S_6))))) dp mc4 ms5 x0 ((nI 6)) S))) ∧
 (¬ ((cI S x5 ((nI 3)).toNatClampNeg)) ≤ x6 →
  cX S x4 14 ((((nI 2)) + x6)) ∧ (cX S x3 14 x6 ∧ (∀ S7 : cS, S7 = cSI S x3 (x6).toNatClampNeg ((cI S x4 ((((nI 2)) + x6)).toNatClampNeg)) → cX S7 x3 14 x6 ∧ (cX S7 x3 14 x6 ∧ (cX S7 x4 14 ((((nI 32)) + ((cI S7 x3 (x6).toNatClampNeg)))) ∧ (cX S7 x1 14 ((cI S7 x3 (x6).toNatClampNeg)) ∧ (∀ S8 : cS, S8 = cSI S7 x1 ((cI S7 x3 (x6).toNatClampNeg)).toNatClampNeg ((cI S7 x4 ((((nI 32)) + ((cI S7 x3 (x6).toNatClampNeg)))).toNatClampNeg)) → cX S8 x3 14 x6 ∧ (cX S8 x3 14 x6 ∧ (cX S8 x1 14 ((cI S8 x3 (x6).toNatClampNeg)) ∧ (cX S8 x2 14 ((cI S8 x3 (x6).toNatClampNeg)) ∧ (∀ S9 : cS, S9 = cSI S8 x2 ((cI S8 x3 (x6).toNatClampNeg)).toNatClampNeg ((cI S8 x1 ((cI S8 x3 (x6).toNatClampNeg)).toNatClampNeg)) → ∀ x6_10 : Int32, x6_10 = x6 + nI 1 → R59 x0 x1 x2 x3 x4 x5 x6_10 cd dd S9)))))))))))))
def k_L_opens_59L (Q : Int32 → cS → Prop) (dp : Nat) (mc ms : Nat)  (x0 : Nat) (x1 : Nat) (x2 : Nat) (x3 : Nat) (x4 : Nat) (x5 : Nat) (x6 : Int32) (cd dd : Nat) (S : cS) : Prop :=
  lfp (X := Nat × Nat × Nat × Nat × Nat × Nat × Int32 × Nat × Nat × cS) (fun P y => k_L_opens_59 Q dp mc ms  (fun b0 b1 b2 b3 b4 b5 b6 b7 b8 S => P (b0, b1, b2, b3, b4, b5, b6, b7, b8, S)) y.1 y.2.1 y.2.2.1 y.2.2.2.1 y.2.2.2.2.1 y.2.2.2.2.2.1 y.2.2.2.2.2.2.1 y.2.2.2.2.2.2.2.1 y.2.2.2.2.2.2.2.2.1 y.2.2.2.2.2.2.2.2.2) (x0, x1, x2, x3, x4, x5, x6, cd, dd, S)
def k_L_opens_55 (Q : Int32 → cS → Prop) (dp : Nat) (mc ms : Nat)  (x0 : Nat) (x1 : Nat) (x2 : Nat) (x3 : Nat) (x4 : Nat) (x5 : Nat) (t0 : Int32) (t1 : Int32) (t2 : Nat) (cd dd : Nat) (S : cS) : Prop :=
cX S t2 14 t1 ∧ (∀ S3 : cS, S3 = cSI S t2 (t1).toNatClampNeg t0 → k_L_opens_59L Q dp mc ms  x0 x1 x2 x3 x4 x5 (((nI 0))) cd dd S3)
def k_L_opens (Q : Int32 → cS → Prop) (dp : Nat) (mc ms : Nat) (x0 : Nat) (x1 : Nat) (x2 : Nat) (x3 : Nat) (x4 : Nat) (x5 : Nat) (S : cS) : Prop :=
cX S x5 14 ((nI 6)) ∧ (((¬ ((cI S x5 ((nI 6)).toNatClampNeg)) = 0 →
  cX S x5 14 ((nI 6)) ∧ (∀ S1 : cS, S1 = cSI S x5 ((nI 6)).toNatClampNeg ((nI 0)) → cX S1 x5 14 ((nI 5)) ∧ (∀ S2 : cS, S2 = cSI S1 x5 ((nI 5)).toNatClampNeg (((-1))) → cX S2 x4 14 ((nI 0)) ∧ (((¬ ((cI S2 x4 ((nI 0)).toNatClampNeg)) = ((nI 1)) →
    k_L_opens_55 Q dp mc ms  x0 x1 x2 x3 x4 x5 ((nI 0)) ((nI 3)) x5 0 0 S2) ∧
   (((cI S2 x4 ((nI 0)).toNatClampNeg)) = ((nI 1)) →
    cX S2 x4 14 ((nI 1)) ∧ (k_L_opens_55 Q dp mc ms  x0 x1 x2 x3 x4 x5 ((cI S2 x4 ((nI 1)).toNatClampNeg)) ((nI 3)) x5 0 0 S2))))))) ∧
 (((cI S x5 ((nI 6)).toNatClampNeg)) = 0 →
  (∃ mc11 ms12 : Nat, 0 + mc11 ≤ mc ∧ 0 + ms12 ≤ ms ∧ (kw_L_did (fun r_13 S_13 => 
  ((¬ r_13 = (((-7))) →
    (0 + mc11 ≤ mc ∧ 0 + ms12 ≤ ms) ∧ (Q ((bI false)) S_13)) ∧
   (r_13 = (((-7))) →
    (0 + mc11 ≤ mc ∧ 0 + ms12 ≤ ms) ∧ (Q ((bI true)) S_13)))) dp mc11 ms12 x0 ((nI 6)) S)))))
def k_L_looks_138 (Q : Int32 → cS → Prop) (dp : Nat) (mc ms : Nat)  (x0 : Nat) (x5 : Nat) (x7 : Int32) (cd dd : Nat) (S : cS) : Prop :=
(∃ mc4 ms5 : Nat, cd + mc4 ≤ mc ∧ dd + ms5 ≤ ms ∧ (kw_L_looked (fun r_6 S_6 => 
cX S_6 x5 14 ((nI 8)) ∧ (((¬ r_6 = ((((cI S_6 x5 ((nI 8)).toNatClampNeg)) - ((nI 1)))) →
  (cd + mc4 ≤ mc ∧ dd + ms5 ≤ ms) ∧ (Q ((bI false)) S_6)) ∧
 (r_6 = ((((cI S_6 x5 ((nI 8)).toNatClampNeg)) - ((nI 1)))) →
  (cd + mc4 ≤ mc ∧ dd + ms5 ≤ ms) ∧ (Q ((bI true)) S_6))))) dp mc4 ms5 x0 x7 S))
def k_L_looks_105 (Q : Int32 → cS → Prop) (dp : Nat) (mc ms : Nat) (R105 : Nat → Nat → Nat → Nat → Int32 → Int32 → Nat → Nat → cS → Prop) (x0 : Nat) (x3 : Nat) (x4 : Nat) (x5 : Nat) (x7 : Int32) (x8 : Int32) (cd dd : Nat) (S : cS) : Prop :=
((((nI 62)) ≤ x8 →
  k_L_looks_138 Q dp mc ms  x0 x5 x7 cd dd S) ∧
 (¬ ((nI 62)) ≤ x8 →
  cX S x3 14 ((nI 0)) ∧ (((¬ ((cI S x3 ((nI 0)).toNatClampNeg)) = ((nI 1)) →
    k_L_looks_138 Q dp mc ms  x0 x5 x7 cd dd S) ∧
   (((cI S x3 ((nI 0)).toNatClampNeg)) = ((nI 1)) →
    cX S x3 14 ((((nI 2)) + x8)) ∧ (cX S x4 14 ((((nI 2)) + x8)) ∧ (∀ S7 : cS, S7 = cSI S x4 ((((nI 2)) + x8)).toNatClampNeg ((cI S x3 ((((nI 2)) + x8)).toNatClampNeg)) → ∀ x8_8 : Int32, x8_8 = x8 + nI 1 → R105 x0 x3 x4 x5 x7 x8_8 cd dd S7)))))))
def k_L_looks_105L (Q : Int32 → cS → Prop) (dp : Nat) (mc ms : Nat)  (x0 : Nat) (x3 : Nat) (x4 : Nat) (x5 : Nat) (x7 : Int32) (x8 : Int32) (cd dd : Nat) (S : cS) : Prop :=
  lfp (X := Nat × Nat × Nat × Nat × Int32 × Int32 × Nat × Nat × cS) (fun P y => k_L_looks_105 Q dp mc ms  (fun b0 b1 b2 b3 b4 b5 b6 b7 S => P (b0, b1, b2, b3, b4, b5, b6, b7, S)) y.1 y.2.1 y.2.2.1 y.2.2.2.1 y.2.2.2.2.1 y.2.2.2.2.2.1 y.2.2.2.2.2.2.1 y.2.2.2.2.2.2.2.1 y.2.2.2.2.2.2.2.2) (x0, x3, x4, x5, x7, x8, cd, dd, S)
def k_L_looks_101 (Q : Int32 → cS → Prop) (dp : Nat) (mc ms : Nat)  (x0 : Nat) (x3 : Nat) (x4 : Nat) (x5 : Nat) (x7 : Int32) (t0 : Int32) (t1 : Int32) (t2 : Nat) (cd dd : Nat) (S : cS) : Prop :=
cX S t2 14 t1 ∧ (∀ S3 : cS, S3 = cSI S t2 (t1).toNatClampNeg t0 → k_L_looks_105L Q dp mc ms  x0 x3 x4 x5 x7 (((nI 0))) cd dd S3)
def k_L_looks_12 (Q : Int32 → cS → Prop) (dp : Nat) (mc ms : Nat)  (x0 : Nat) (x1 : Nat) (x2 : Nat) (x3 : Nat) (x4 : Nat) (x5 : Nat) (t0 : Int32) (cd dd : Nat) (S : cS) : Prop :=
cX S x5 14 ((nI 6)) ∧ (((¬ ((cI S x5 ((nI 6)).toNatClampNeg)) = ((nI 1)) →
  cX S x4 14 ((nI 0)) ∧ (((((cI S x4 ((nI 0)).toNatClampNeg)) ≤ 0 →
    cX S x5 14 ((nI 8)) ∧ (cX S x5 14 ((nI 8)) ∧ (∀ S1 : cS, S1 = cSI S x5 ((nI 8)).toNatClampNeg ((((cI S x5 ((nI 8)).toNatClampNeg)) + ((nI 1)))) → cX S1 x5 14 ((nI 8)) ∧ (cX S1 x4 14 ((nI 0)) ∧ (∀ S2 : cS, S2 = cSI S1 x4 ((nI 0)).toNatClampNeg ((cI S1 x5 ((nI 8)).toNatClampNeg)) → ((t0 = 0 →
      cX S2 x3 14 ((nI 0)) ∧ (((¬ ((cI S2 x3 ((nI 0)).toNatClampNeg)) = ((nI 1)) →
        k_L_looks_101 Q dp mc ms  x0 x3 x4 x5 t0 ((nI 0)) ((nI 1)) x4 cd dd S2) ∧
       (((cI S2 x3 ((nI 0)).toNatClampNeg)) = ((nI 1)) →
        cX S2 x3 14 ((nI 1)) ∧ (k_L_looks_101 Q dp mc ms  x0 x3 x4 x5 t0 ((cI S2 x3 ((nI 1)).toNatClampNeg)) ((nI 1)) x4 cd dd S2))))) ∧
     (¬ t0 = 0 →
      (cd ≤ mc ∧ dd ≤ ms) ∧ (k_L_names (fun S_9 => 
      k_L_looks_138 Q dp mc ms  x0 x5 t0 cd dd S_9) dp x4 x2 x1 x5 S2)))))))) ∧
   (¬ ((cI S x4 ((nI 0)).toNatClampNeg)) ≤ 0 →
    (cd ≤ mc ∧ dd ≤ ms) ∧ (Q ((bI true)) S))))) ∧
 (((cI S x5 ((nI 6)).toNatClampNeg)) = ((nI 1)) →
  (∃ mc10 ms11 : Nat, cd + mc10 ≤ mc ∧ dd + ms11 ≤ ms ∧ (kw_L_looked (fun r_12 S_12 => 
  ((¬ r_12 = (((-7))) →
    (cd + mc10 ≤ mc ∧ dd + ms11 ≤ ms) ∧ (Q ((bI false)) S_12)) ∧
   (r_12 = (((-7))) →
    (cd + mc10 ≤ mc ∧ dd + ms11 ≤ ms) ∧ (Q ((bI true)) S_12)))) dp mc10 ms11 x0 t0 S)))))
def k_L_looks (Q : Int32 → cS → Prop) (dp : Nat) (mc ms : Nat) (x0 : Nat) (x1 : Nat) (x2 : Nat) (x3 : Nat) (x4 : Nat) (x5 : Nat) (x6 : Int32) (S : cS) : Prop :=
((((x6 - x6 / ((nI 3)) * ((nI 3)))) ≤ 0 →
  k_L_looks_12 Q dp mc ms  x0 x1 x2 x3 x4 x5 ((nI 0)) 0 0 S) ∧
 (¬ ((x6 - x6 / ((nI 3)) * ((nI 3)))) ≤ 0 →
  k_L_looks_12 Q dp mc ms  x0 x1 x2 x3 x4 x5 ((nI 1)) 0 0 S))
def ks_L_holds_848 (Q : Int32 → cS → Prop) (dp : Nat) (mc ms : Nat) (L : Nat)  (x1 : Nat) (x2 : Nat) (x4 : Nat) (x5 : Nat) (x6 : Nat) (x8 : Nat) (x9 : Nat) (x10 : Nat) (x11 : Nat) (x12 : Nat) (x17 : Nat) (x18 : Int32) (cd dd : Nat) (S : cS) : Prop :=
((x18 = 0 →
  (cd ≤ mc ∧ dd ≤ ms) ∧ (Q ((bI false)) S)) ∧
 (¬ x18 = 0 →
  (∃ mc58 ms59 : Nat, cd + mc58 ≤ mc ∧ dd + ms59 ≤ ms ∧ (k_L_isIndex (fun r_60 S_60 => 
  ((r_60 = 0 →
    (cd + mc58 ≤ mc ∧ dd + ms59 ≤ ms) ∧ (Q ((bI false)) S_60)) ∧
   (¬ r_60 = 0 →
    (cd + mc58 ≤ mc ∧ dd + ms59 ≤ ms) ∧ (Q ((bI true)) S_60)))) dp mc58 ms59 x1 x2 x4 x5 x6 x8 x9 x10 x11 x12 x17 S))))
def ks_L_holds_840 (Q : Int32 → cS → Prop) (dp : Nat) (mc ms : Nat) (L : Nat) (R116 : Nat → Nat → Nat → Nat → Nat → Nat → Nat → Nat → Nat → Nat → Nat → Nat → Nat → Nat → Nat → Nat → Nat → Int32 → Int32 → Nat → Nat → cS → Prop) (x1 : Nat) (x2 : Nat) (x3 : Nat) (x4 : Nat) (x5 : Nat) (x6 : Nat) (x7 : Nat) (x8 : Nat) (x9 : Nat) (x10 : Nat) (x11 : Nat) (x12 : Nat) (x13 : Nat) (x14 : Nat) (x15 : Nat) (x16 : Nat) (x17 : Nat) (x19 : Int32) (t0 : Int32) (cd dd : Nat) (S : cS) : Prop :=
∀ x19_66 : Int32, x19_66 = x19 + nI 1 → R116 x1 x2 x3 x4 x5 x6 x7 x8 x9 x10 x11 x12 x13 x14 x15 x16 x17 t0 x19_66 cd dd S
def ks_L_holds_839 (Q : Int32 → cS → Prop) (dp : Nat) (mc ms : Nat) (L : Nat) (R116 : Nat → Nat → Nat → Nat → Nat → Nat → Nat → Nat → Nat → Nat → Nat → Nat → Nat → Nat → Nat → Nat → Nat → Int32 → Int32 → Nat → Nat → cS → Prop) (x1 : Nat) (x2 : Nat) (x3 : Nat) (x4 : Nat) (x5 : Nat) (x6 : Nat) (x7 : Nat) (x8 : Nat) (x9 : Nat) (x10 : Nat) (x11 : Nat) (x12 : Nat) (x13 : Nat) (x14 : Nat) (x15 : Nat) (x16 : Nat) (x17 : Nat) (x19 : Int32) (cd dd : Nat) (S : cS) : Prop :=
ks_L_holds_840 Q dp mc ms L R116 x1 x2 x3 x4 x5 x6 x7 x8 x9 x10 x11 x12 x13 x14 x15 x16 x17 x19 ((nI 0)) cd dd S
def ks_L_holds_796 (Q : Int32 → cS → Prop) (dp : Nat) (mc ms : Nat) (L : Nat) (R116 : Nat → Nat → Nat → Nat → Nat → Nat → Nat → Nat → Nat → Nat → Nat → Nat → Nat → Nat → Nat → Nat → Nat → Int32 → Int32 → Nat → Nat → cS → Prop) (x1 : Nat) (x2 : Nat) (x3 : Nat) (x4 : Nat) (x5 : Nat) (x6 : Nat) (x7 : Nat) (x8 : Nat) (x9 : Nat) (x10 : Nat) (x11 : Nat) (x12 : Nat) (x13 : Nat) (x14 : Nat) (x15 : Nat) (x16 : Nat) (x17 : Nat) (x18 : Int32) (x19 : Int32) (cd dd : Nat) (S : cS) : Prop :=
((x18 = 0 →
  ks_L_holds_839 Q dp mc ms L R116 x1 x2 x3 x4 x5 x6 x7 x8 x9 x10 x11 x12 x13 x14 x15 x16 x17 x19 cd dd S) ∧
 (¬ x18 = 0 →
  ((((x19 - x19 / ((nI 4)) * ((nI 4)))) < ((nI 3)) →
    ks_L_holds_840 Q dp mc ms L R116 x1 x2 x3 x4 x5 x6 x7 x8 x9 x10 x11 x12 x13 x14 x15 x16 x17 x19 ((nI 1)) cd dd S) ∧
   (¬ ((x19 - x19 / ((nI 4)) * ((nI 4)))) < ((nI 3)) →
    (∃ mc67 ms68 : Nat, cd + mc67 ≤ mc ∧ dd + ms68 ≤ ms ∧ (k_L_isIndex (fun r_69 S_69 => 
    ((r_69 = 0 →
      ks_L_holds_839 Q dp mc ms L R116 x1 x2 x3 x4 x5 x6 x7 x8 x9 x10 x11 x12 x13 x14 x15 x16 x17 x19 (cd + mc67) (dd + ms68) S_69) ∧
     (¬ r_69 = 0 →
      ks_L_holds_840 Q dp mc ms L R116 x1 x2 x3 x4 x5 x6 x7 x8 x9 x10 x11 x12 x13 x14 x15 x16 x17 x19 ((nI 1)) (cd + mc67) (dd + ms68) S_69))) dp mc67 ms68 x1 x2 x4 x5 x6 x8 x9 x10 x11 x12 x17 S))))))
def ks_L_holds_587 (Q : Int32 → cS → Prop) (dp : Nat) (mc ms : Nat) (L : Nat) (R116 : Nat → Nat → Nat → Nat → Nat → Nat → Nat → Nat → Nat → Nat → Nat → Nat → Nat → Nat → Nat → Nat → Nat → Int32 → Int32 → Nat → Nat → cS → Prop) (x1 : Nat) (x2 : Nat) (x3 : Nat) (x4 : Nat) (x5 : Nat) (x6 : Nat) (x7 : Nat) (x8 : Nat) (x9 : Nat) (x10 : Nat) (x11 : Nat) (x12 : Nat) (x13 : Nat) (x14 : Nat) (x15 : Nat) (x16 : Nat) (x17 : Nat) (x19 : Int32) (cd dd : Nat) (S : cS) : Prop :=
(∃ mc63 ms64 : Nat, cd + mc63 ≤ mc ∧ dd + ms64 ≤ ms ∧ (k_L_opens (fun r_65 S_65 => 
ks_L_holds_796 Q dp mc ms L R116 x1 x2 x3 x4 x5 x6 x7 x8 x9 x10 x11 x12 x13 x14 x15 x16 x17 r_65 x19 (cd + mc63) (dd + ms64) S_65) dp mc63 ms64 x1 x6 x7 x8 x9 x17 S))
def ks_L_holds_794 (Q : Int32 → cS → Prop) (dp : Nat) (mc ms : Nat) (L : Nat) (R116 : Nat → Nat → Nat → Nat → Nat → Nat → Nat → Nat → Nat → Nat → Nat → Nat → Nat → Nat → Nat → Nat → Nat → Int32 → Int32 → Nat → Nat → cS → Prop) (x1 : Nat) (x2 : Nat) (x3 : Nat) (x4 : Nat) (x5 : Nat) (x6 : Nat) (x7 : Nat) (x8 : Nat) (x9 : Nat) (x10 : Nat) (x11 : Nat) (x12 : Nat) (x13 : Nat) (x14 : Nat) (x15 : Nat) (x16 : Nat) (x17 : Nat) (x19 : Int32) (t0 : Int32) (cd dd : Nat) (S : cS) : Prop :=
ks_L_holds_796 Q dp mc ms L R116 x1 x2 x3 x4 x5 x6 x7 x8 x9 x10 x11 x12 x13 x14 x15 x16 x17 t0 x19 cd dd S
def ks_L_holds_793 (Q : Int32 → cS → Prop) (dp : Nat) (mc ms : Nat) (L : Nat) (R116 : Nat → Nat → Nat → Nat → Nat → Nat → Nat → Nat → Nat → Nat → Nat → Nat → Nat → Nat → Nat → Nat → Nat → Int32 → Int32 → Nat → Nat → cS → Prop) (x1 : Nat) (x2 : Nat) (x3 : Nat) (x4 : Nat) (x5 : Nat) (x6 : Nat) (x7 : Nat) (x8 : Nat) (x9 : Nat) (x10 : Nat) (x11 : Nat) (x12 : Nat) (x13 : Nat) (x14 : Nat) (x15 : Nat) (x16 : Nat) (x17 : Nat) (x19 : Int32) (cd dd : Nat) (S : cS) : Prop :=
ks_L_holds_794 Q dp mc ms L R116 x1 x2 x3 x4 x5 x6 x7 x8 x9 x10 x11 x12 x13 x14 x15 x16 x17 x19 ((nI 0)) cd dd S
def ks_L_holds_779 (Q : Int32 → cS → Prop) (dp : Nat) (mc ms : Nat) (L : Nat) (R116 : Nat → Nat → Nat → Nat → Nat → Nat → Nat → Nat → Nat → Nat → Nat → Nat → Nat → Nat → Nat → Nat → Nat → Int32 → Int32 → Nat → Nat → cS → Prop) (x1 : Nat) (x2 : Nat) (x3 : Nat) (x4 : Nat) (x5 : Nat) (x6 : Nat) (x7 : Nat) (x8 : Nat) (x9 : Nat) (x10 : Nat) (x11 : Nat) (x12 : Nat) (x13 : Nat) (x14 : Nat) (x15 : Nat) (x16 : Nat) (x17 : Nat) (x19 : Int32) (x20 : Int32) (t0 : Nat) (t1 : Nat) (t2 : Nat) (t3 : Nat) (t4 : Nat) (cd dd : Nat) (S : cS) : Prop :=
(∃ mc73 ms74 : Nat, cd + mc73 ≤ mc ∧ dd + ms74 ≤ ms ∧ (k_L_isPlain (fun r_75 S_75 => 
((r_75 = 0 →
  ks_L_holds_793 Q dp mc ms L R116 x1 x2 x3 x4 x5 x6 x7 x8 x9 x10 x11 x12 x13 x14 x15 x16 x17 x19 (cd + mc73) (dd + ms74) S_75) ∧
 (¬ r_75 = 0 →
  ks_L_holds_794 Q dp mc ms L R116 x1 x2 x3 x4 x5 x6 x7 x8 x9 x10 x11 x12 x13 x14 x15 x16 x17 x19 ((nI 1)) (cd + mc73) (dd + ms74) S_75))) dp mc73 ms74 t4 t3 t2 t1 t0 ((x20 / ((nI 3)))) S))
def ks_L_holds_745 (Q : Int32 → cS → Prop) (dp : Nat) (mc ms : Nat) (L : Nat) (R116 : Nat → Nat → Nat → Nat → Nat → Nat → Nat → Nat → Nat → Nat → Nat → Nat → Nat → Nat → Nat → Nat → Nat → Int32 → Int32 → Nat → Nat → cS → Prop) (x1 : Nat) (x2 : Nat) (x3 : Nat) (x4 : Nat) (x5 : Nat) (x6 : Nat) (x7 : Nat) (x8 : Nat) (x9 : Nat) (x10 : Nat) (x11 : Nat) (x12 : Nat) (x13 : Nat) (x14 : Nat) (x15 : Nat) (x16 : Nat) (x17 : Nat) (x19 : Int32) (x20 : Int32) (t0 : Nat) (t1 : Nat) (t2 : Nat) (t3 : Nat) (t4 : Nat) (cd dd : Nat) (S : cS) : Prop :=
(∃ mc70 ms71 : Nat, cd + mc70 ≤ mc ∧ dd + ms71 ≤ ms ∧ (k_L_isFound (fun r_72 S_72 => 
((r_72 = 0 →
  ks_L_holds_793 Q dp mc ms L R116 x1 x2 x3 x4 x5 x6 x7 x8 x9 x10 x11 x12 x13 x14 x15 x16 x17 x19 (cd + mc70) (dd + ms71) S_72) ∧
 (¬ r_72 = 0 →
  cX S_72 x11 14 ((nI 0)) ∧ (((((cI S_72 x11 ((nI 0)).toNatClampNeg)) ≤ 0 →
    ks_L_holds_779 Q dp mc ms L R116 x1 x2 x3 x4 x5 x6 x7 x8 x9 x10 x11 x12 x13 x14 x15 x16 x17 x19 x20 x12 x5 x4 x2 x1 (cd + mc70) (dd + ms71) S_72) ∧
   (¬ ((cI S_72 x11 ((nI 0)).toNatClampNeg)) ≤ 0 →
    ks_L_holds_779 Q dp mc ms L R116 x1 x2 x3 x4 x5 x6 x7 x8 x9 x10 x11 x12 x13 x14 x15 x16 x17 x19 x20 x11 x5 x4 x2 x1 (cd + mc70) (dd + ms71) S_72)))))) dp mc70 ms71 t4 t3 t2 t1 t0 x13 x14 x17 x20 S))
def ks_L_holds_725 (Q : Int32 → cS → Prop) (dp : Nat) (mc ms : Nat) (L : Nat) (R116 : Nat → Nat → Nat → Nat → Nat → Nat → Nat → Nat → Nat → Nat → Nat → Nat → Nat → Nat → Nat → Nat → Nat → Int32 → Int32 → Nat → Nat → cS → Prop) (x1 : Nat) (x2 : Nat) (x3 : Nat) (x4 : Nat) (x5 : Nat) (x6 : Nat) (x7 : Nat) (x8 : Nat) (x9 : Nat) (x10 : Nat) (x11 : Nat) (x12 : Nat) (x13 : Nat) (x14 : Nat) (x15 : Nat) (x16 : Nat) (x17 : Nat) (x19 : Int32) (x20 : Int32) (cd dd : Nat) (S : cS) : Prop :=
cX S x11 14 ((nI 0)) ∧ (((((cI S x11 ((nI 0)).toNatClampNeg)) ≤ 0 →
  ks_L_holds_745 Q dp mc ms L R116 x1 x2 x3 x4 x5 x6 x7 x8 x9 x10 x11 x12 x13 x14 x15 x16 x17 x19 x20 x12 x5 x4 x2 x1 cd dd S) ∧
 (¬ ((cI S x11 ((nI 0)).toNatClampNeg)) ≤ 0 →
  ks_L_holds_745 Q dp mc ms L R116 x1 x2 x3 x4 x5 x6 x7 x8 x9 x10 x11 x12 x13 x14 x15 x16 x17 x19 x20 x11 x5 x4 x2 x1 cd dd S)))
def ks_L_holds_711 (Q : Int32 → cS → Prop) (dp : Nat) (mc ms : Nat) (L : Nat) (R116 : Nat → Nat → Nat → Nat → Nat → Nat → Nat → Nat → Nat → Nat → Nat → Nat → Nat → Nat → Nat → Nat → Nat → Int32 → Int32 → Nat → Nat → cS → Prop) (x1 : Nat) (x2 : Nat) (x3 : Nat) (x4 : Nat) (x5 : Nat) (x6 : Nat) (x7 : Nat) (x8 : Nat) (x9 : Nat) (x10 : Nat) (x11 : Nat) (x12 : Nat) (x13 : Nat) (x14 : Nat) (x15 : Nat) (x16 : Nat) (x17 : Nat) (x18 : Int32) (x19 : Int32) (x20 : Int32) (cd dd : Nat) (S : cS) : Prop :=
cX S x11 14 ((nI 0)) ∧ (((0 < ((cI S x11 ((nI 0)).toNatClampNeg)) →
  ks_L_holds_725 Q dp mc ms L R116 x1 x2 x3 x4 x5 x6 x7 x8 x9 x10 x11 x12 x13 x14 x15 x16 x17 x19 x20 cd dd S) ∧
 (¬ 0 < ((cI S x11 ((nI 0)).toNatClampNeg)) →
  cX S x12 14 ((nI 0)) ∧ (((((cI S x12 ((nI 0)).toNatClampNeg)) ≤ 0 →
    ks_L_holds_796 Q dp mc ms L R116 x1 x2 x3 x4 x5 x6 x7 x8 x9 x10 x11 x12 x13 x14 x15 x16 x17 x18 x19 cd dd S) ∧
   (¬ ((cI S x12 ((nI 0)).toNatClampNeg)) ≤ 0 →
    ks_L_holds_725 Q dp mc ms L R116 x1 x2 x3 x4 x5 x6 x7 x8 x9 x10 x11 x12 x13 x14 x15 x16 x17 x19 x20 cd dd S))))))
def ks_L_holds_706 (Q : Int32 → cS → Prop) (dp : Nat) (mc ms : Nat) (L : Nat) (R116 : Nat → Nat → Nat → Nat → Nat → Nat → Nat → Nat → Nat → Nat → Nat → Nat → Nat → Nat → Nat → Nat → Nat → Int32 → Int32 → Nat → Nat → cS → Prop) (x1 : Nat) (x2 : Nat) (x3 : Nat) (x4 : Nat) (x5 : Nat) (x6 : Nat) (x7 : Nat) (x8 : Nat) (x9 : Nat) (x10 : Nat) (x11 : Nat) (x12 : Nat) (x13 : Nat) (x14 : Nat) (x15 : Nat) (x16 : Nat) (x17 : Nat) (x19 : Int32) (t0 : Int32) (cd dd : Nat) (S : cS) : Prop :=
ks_L_holds_796 Q dp mc ms L R116 x1 x2 x3 x4 x5 x6 x7 x8 x9 x10 x11 x12 x13 x14 x15 x16 x17 t0 x19 cd dd S
def ks_L_holds_634 (Q : Int32 → cS → Prop) (dp : Nat) (mc ms : Nat) (L : Nat) (R116 : Nat → Nat → Nat → Nat → Nat → Nat → Nat → Nat → Nat → Nat → Nat → Nat → Nat → Nat → Nat → Nat → Nat → Int32 → Int32 → Nat → Nat → cS → Prop) (x1 : Nat) (x2 : Nat) (x3 : Nat) (x4 : Nat) (x5 : Nat) (x6 : Nat) (x7 : Nat) (x8 : Nat) (x9 : Nat) (x10 : Nat) (x11 : Nat) (x12 : Nat) (x13 : Nat) (x14 : Nat) (x15 : Nat) (x16 : Nat) (x17 : Nat) (x19 : Int32) (x20 : Int32) (t0 : Nat) (t1 : Nat) (t2 : Nat) (t3 : Nat) (t4 : Nat) (cd dd : Nat) (S : cS) : Prop :=
(∃ mc82 ms83 : Nat, cd + mc82 ≤ mc ∧ dd + ms83 ≤ ms ∧ (k_L_looks (fun r_84 S_84 => 
ks_L_holds_796 Q dp mc ms L R116 x1 x2 x3 x4 x5 x6 x7 x8 x9 x10 x11 x12 x13 x14 x15 x16 x17 r_84 x19 (cd + mc82) (dd + ms83) S_84) dp mc82 ms83 t4 t3 t2 t1 t0 x17 ((x20 / ((nI 2)))) S))
def ks_L_holds_571 (Q : Int32 → cS → Prop) (dp : Nat) (mc ms : Nat) (L : Nat) (R116 : Nat → Nat → Nat → Nat → Nat → Nat → Nat → Nat → Nat → Nat → Nat → Nat → Nat → Nat → Nat → Nat → Nat → Int32 → Int32 → Nat → Nat → cS → Prop) (x1 : Nat) (x2 : Nat) (x3 : Nat) (x4 : Nat) (x5 : Nat) (x6 : Nat) (x7 : Nat) (x8 : Nat) (x9 : Nat) (x10 : Nat) (x11 : Nat) (x12 : Nat) (x13 : Nat) (x14 : Nat) (x15 : Nat) (x16 : Nat) (x17 : Nat) (x18 : Int32) (x19 : Int32) (x20 : Int32) (x21 : Int32) (cd dd : Nat) (S : cS) : Prop :=
((x21 = ((nI 26)) →
  ks_L_holds_587 Q dp mc ms L R116 x1 x2 x3 x4 x5 x6 x7 x8 x9 x10 x11 x12 x13 x14 x15 x16 x17 x19 cd dd S) ∧
 (¬ x21 = ((nI 26)) →
  cX S x17 14 ((nI 6)) ∧ (((¬ ((cI S x17 ((nI 6)).toNatClampNeg)) = ((nI 1)) →
    ((((nI 29)) ≤ x21 →
      ((¬ x21 = ((nI 29)) →
        ks_L_holds_711 Q dp mc ms L R116 x1 x2 x3 x4 x5 x6 x7 x8 x9 x10 x11 x12 x13 x14 x15 x16 x17 x18 x19 x20 cd dd S) ∧
       (x21 = ((nI 29)) →
        cX S x11 14 ((nI 0)) ∧ (((((cI S x11 ((nI 0)).toNatClampNeg)) ≤ 0 →
          ks_L_holds_711 Q dp mc ms L R116 x1 x2 x3 x4 x5 x6 x7 x8 x9 x10 x11 x12 x13 x14 x15 x16 x17 x18 x19 x20 cd dd S) ∧
         (¬ ((cI S x11 ((nI 0)).toNatClampNeg)) ≤ 0 →
          cX S x11 14 ((nI 0)) ∧ (∀ x23_76 : Int32, x23_76 = (((cI S x11 ((nI 0)).toNatClampNeg)) - ((nI 1))) → cX S x11 14 ((nI 0)) ∧ (∀ S77 : cS, S77 = cSI S x11 ((nI 0)).toNatClampNeg ((nI 0)) → cA S77 x1 11 ∧ ((∃ mc78 ms79 : Nat, cd + mc78 ≤ mc ∧ dd + ms79 ≤ ms ∧ (k_X11_shut (fun r_80 S_80 => 
          (cd + mc78 ≤ mc ∧ dd + ms79 ≤ ms) ∧ (k_L_files (fun r_81 S_81 => 
          ((¬ r_80 = r_81 →
            ks_L_holds_706 Q dp mc ms L R116 x1 x2 x3 x4 x5 x6 x7 x8 x9 x10 x11 x12 x13 x14 x15 x16 x17 x19 ((nI 0)) (cd + mc78) (dd + ms79) S_81) ∧
           (r_80 = r_81 →
            ks_L_holds_706 Q dp mc ms L R116 x1 x2 x3 x4 x5 x6 x7 x8 x9 x10 x11 x12 x13 x14 x15 x16 x17 x19 ((nI 1)) (cd + mc78) (dd + ms79) S_81))) dp x5 x8 x9 x10 x11 x12 x17 S_80)) dp mc78 ms79 x1 x23_76 S77))))))))))) ∧
     (¬ ((nI 29)) ≤ x21 →
      ((¬ ((x20 - x20 / ((nI 2)) * ((nI 2)))) = 0 →
        ks_L_holds_634 Q dp mc ms L R116 x1 x2 x3 x4 x5 x6 x7 x8 x9 x10 x11 x12 x13 x14 x15 x16 x17 x19 x20 x12 x9 x8 x6 x1 cd dd S) ∧
       (((x20 - x20 / ((nI 2)) * ((nI 2)))) = 0 →
        ks_L_holds_634 Q dp mc ms L R116 x1 x2 x3 x4 x5 x6 x7 x8 x9 x10 x11 x12 x13 x14 x15 x16 x17 x19 x20 x11 x9 x8 x6 x1 cd dd S))))) ∧
   (((cI S x17 ((nI 6)).toNatClampNeg)) = ((nI 1)) →
    ks_L_holds_587 Q dp mc ms L R116 x1 x2 x3 x4 x5 x6 x7 x8 x9 x10 x11 x12 x13 x14 x15 x16 x17 x19 cd dd S)))))
def ks_L_holds_535 (Q : Int32 → cS → Prop) (dp : Nat) (mc ms : Nat) (L : Nat) (R116 : Nat → Nat → Nat → Nat → Nat → Nat → Nat → Nat → Nat → Nat → Nat → Nat → Nat → Nat → Nat → Nat → Nat → Int32 → Int32 → Nat → Nat → cS → Prop) (x1 : Nat) (x2 : Nat) (x3 : Nat) (x4 : Nat) (x5 : Nat) (x6 : Nat) (x7 : Nat) (x8 : Nat) (x9 : Nat) (x10 : Nat) (x11 : Nat) (x12 : Nat) (x13 : Nat) (x14 : Nat) (x15 : Nat) (x16 : Nat) (x17 : Nat) (x18 : Int32) (x19 : Int32) (x20 : Int32) (x21 : Int32) (cd dd : Nat) (S : cS) : Prop :=
((¬ x21 = ((nI 25)) →
  ks_L_holds_571 Q dp mc ms L R116 x1 x2 x3 x4 x5 x6 x7 x8 x9 x10 x11 x12 x13 x14 x15 x16 x17 x18 x19 x20 x21 cd dd S) ∧
 (x21 = ((nI 25)) →
  cX S x17 14 ((nI 6)) ∧ (((¬ ((cI S x17 ((nI 6)).toNatClampNeg)) = 0 →
    ks_L_holds_571 Q dp mc ms L R116 x1 x2 x3 x4 x5 x6 x7 x8 x9 x10 x11 x12 x13 x14 x15 x16 x17 x18 x19 x20 x21 cd dd S) ∧
   (((cI S x17 ((nI 6)).toNatClampNeg)) = 0 →
    cX S x17 14 ((nI 5)) ∧ (∀ S85 : cS, S85 = cSI S x17 ((nI 5)).toNatClampNeg ((x20 - x20 / ((nI 7)) * ((nI 7)))) → cA S85 x1 11 ∧ ((cd ≤ mc ∧ dd ≤ ms) ∧ (k_X11_crashAt (fun S_86 => 
    ks_L_holds_796 Q dp mc ms L R116 x1 x2 x3 x4 x5 x6 x7 x8 x9 x10 x11 x12 x13 x14 x15 x16 x17 x18 x19 cd dd S_86) dp x1 ((x20 - x20 / ((nI 7)) * ((nI 7)))) S85))))))))
def ks_L_holds_527 (Q : Int32 → cS → Prop) (dp : Nat) (mc ms : Nat) (L : Nat) (R116 : Nat → Nat → Nat → Nat → Nat → Nat → Nat → Nat → Nat → Nat → Nat → Nat → Nat → Nat → Nat → Nat → Nat → Int32 → Int32 → Nat → Nat → cS → Prop) (x1 : Nat) (x2 : Nat) (x3 : Nat) (x4 : Nat) (x5 : Nat) (x6 : Nat) (x7 : Nat) (x8 : Nat) (x9 : Nat) (x10 : Nat) (x11 : Nat) (x12 : Nat) (x13 : Nat) (x14 : Nat) (x15 : Nat) (x16 : Nat) (x17 : Nat) (x19 : Int32) (t0 : Int32) (t1 : Nat) (t2 : Nat) (t3 : Nat) (t4 : Nat) (t5 : Nat) (t6 : Nat) (t7 : Nat) (t8 : Nat) (t9 : Nat) (t10 : Nat) (t11 : Nat) (t12 : Nat) (t13 : Nat) (t14 : Nat) (cd dd : Nat) (S : cS) : Prop :=
(∃ mc87 ms88 : Nat, cd + mc87 ≤ mc ∧ dd + ms88 ≤ ms ∧ (k_L_isCommitted (fun r_89 S_89 => 
ks_L_holds_796 Q dp mc ms L R116 x1 x2 x3 x4 x5 x6 x7 x8 x9 x10 x11 x12 x13 x14 x15 x16 x17 r_89 x19 (cd + mc87) (dd + ms88) S_89) dp mc87 ms88 t14 t13 t12 t11 t10 t9 t8 t7 t6 t5 t4 t3 t2 t1 t0 S))
def ks_L_holds_526 (Q : Int32 → cS → Prop) (dp : Nat) (mc ms : Nat) (L : Nat) (R116 : Nat → Nat → Nat → Nat → Nat → Nat → Nat → Nat → Nat → Nat → Nat → Nat → Nat → Nat → Nat → Nat → Nat → Int32 → Int32 → Nat → Nat → cS → Prop) (x1 : Nat) (x2 : Nat) (x3 : Nat) (x4 : Nat) (x5 : Nat) (x6 : Nat) (x7 : Nat) (x8 : Nat) (x9 : Nat) (x10 : Nat) (x11 : Nat) (x12 : Nat) (x13 : Nat) (x14 : Nat) (x15 : Nat) (x16 : Nat) (x17 : Nat) (x19 : Int32) (t0 : Nat) (t1 : Nat) (t2 : Nat) (t3 : Nat) (t4 : Nat) (t5 : Nat) (t6 : Nat) (t7 : Nat) (t8 : Nat) (t9 : Nat) (t10 : Nat) (t11 : Nat) (t12 : Nat) (t13 : Nat) (cd dd : Nat) (S : cS) : Prop :=
ks_L_holds_527 Q dp mc ms L R116 x1 x2 x3 x4 x5 x6 x7 x8 x9 x10 x11 x12 x13 x14 x15 x16 x17 x19 ((nI 1)) t0 t1 t2 t3 t4 t5 t6 t7 t8 t9 t10 t11 t12 t13 cd dd S
def ks_L_holds_460 (Q : Int32 → cS → Prop) (dp : Nat) (mc ms : Nat) (L : Nat) (R116 : Nat → Nat → Nat → Nat → Nat → Nat → Nat → Nat → Nat → Nat → Nat → Nat → Nat → Nat → Nat → Nat → Nat → Int32 → Int32 → Nat → Nat → cS → Prop) (x1 : Nat) (x2 : Nat) (x3 : Nat) (x4 : Nat) (x5 : Nat) (x6 : Nat) (x7 : Nat) (x8 : Nat) (x9 : Nat) (x10 : Nat) (x11 : Nat) (x12 : Nat) (x13 : Nat) (x14 : Nat) (x15 : Nat) (x16 : Nat) (x17 : Nat) (x18 : Int32) (x19 : Int32) (x20 : Int32) (x21 : Int32) (x22 : Int32) (cd dd : Nat) (S : cS) : Prop :=
((((nI 25)) ≤ x21 →
  ks_L_holds_535 Q dp mc ms L R116 x1 x2 x3 x4 x5 x6 x7 x8 x9 x10 x11 x12 x13 x14 x15 x16 x17 x18 x19 x20 x21 cd dd S) ∧
 (¬ ((nI 25)) ≤ x21 →
  ((x22 = 0 →
    ks_L_holds_535 Q dp mc ms L R116 x1 x2 x3 x4 x5 x6 x7 x8 x9 x10 x11 x12 x13 x14 x15 x16 x17 x18 x19 x20 x21 cd dd S) ∧
   (¬ x22 = 0 →
    ((((nI 23)) ≤ x21 →
      ((¬ x21 = ((nI 24)) →
        ks_L_holds_526 Q dp mc ms L R116 x1 x2 x3 x4 x5 x6 x7 x8 x9 x10 x11 x12 x13 x14 x15 x16 x17 x19 x16 x17 x12 x11 x10 x9 x8 x7 x6 x5 x4 x3 x2 x1 cd dd S) ∧
       (x21 = ((nI 24)) →
        ((¬ ((x20 - x20 / ((nI 3)) * ((nI 3)))) = 0 →
          ks_L_holds_526 Q dp mc ms L R116 x1 x2 x3 x4 x5 x6 x7 x8 x9 x10 x11 x12 x13 x14 x15 x16 x17 x19 x16 x17 x12 x11 x10 x9 x8 x7 x6 x5 x4 x3 x2 x1 cd dd S) ∧
         (((x20 - x20 / ((nI 3)) * ((nI 3)))) = 0 →
          ks_L_holds_527 Q dp mc ms L R116 x1 x2 x3 x4 x5 x6 x7 x8 x9 x10 x11 x12 x13 x14 x15 x16 x17 x19 ((nI 2)) x16 x17 x12 x11 x10 x9 x8 x7 x6 x5 x4 x3 x2 x1 cd dd S))))) ∧
     (¬ ((nI 23)) ≤ x21 →
      ks_L_holds_527 Q dp mc ms L R116 x1 x2 x3 x4 x5 x6 x7 x8 x9 x10 x11 x12 x13 x14 x15 x16 x17 x19 ((nI 0)) x16 x17 x12 x11 x10 x9 x8 x7 x6 x5 x4 x3 x2 x1 cd dd S))))))
def ks_L_holds_452 (Q : Int32 → cS → Prop) (dp : Nat) (mc ms : Nat) (L : Nat) (R116 : Nat → Nat → Nat → Nat → Nat → Nat → Nat → Nat → Nat → Nat → Nat → Nat → Nat → Nat → Nat → Nat → Nat → Int32 → Int32 → Nat → Nat → cS → Prop) (x1 : Nat) (x2 : Nat) (x3 : Nat) (x4 : Nat) (x5 : Nat) (x6 : Nat) (x7 : Nat) (x8 : Nat) (x9 : Nat) (x10 : Nat) (x11 : Nat) (x12 : Nat) (x13 : Nat) (x14 : Nat) (x15 : Nat) (x16 : Nat) (x17 : Nat) (x19 : Int32) (t0 : Int32) (t1 : Nat) (t2 : Nat) (t3 : Nat) (t4 : Nat) (t5 : Nat) (t6 : Nat) (t7 : Nat) (t8 : Nat) (t9 : Nat) (t10 : Nat) (t11 : Nat) (cd dd : Nat) (S : cS) : Prop :=
(∃ mc90 ms91 : Nat, cd + mc90 ≤ mc ∧ dd + ms91 ≤ ms ∧ (k_L_isMerged (fun r_92 S_92 => 
ks_L_holds_796 Q dp mc ms L R116 x1 x2 x3 x4 x5 x6 x7 x8 x9 x10 x11 x12 x13 x14 x15 x16 x17 r_92 x19 (cd + mc90) (dd + ms91) S_92) dp mc90 ms91 t11 t10 t9 t8 t7 t6 t5 t4 t3 t2 t1 t0 S))
def ks_L_holds_451 (Q : Int32 → cS → Prop) (dp : Nat) (mc ms : Nat) (L : Nat) (R116 : Nat → Nat → Nat → Nat → Nat → Nat → Nat → Nat → Nat → Nat → Nat → Nat → Nat → Nat → Nat → Nat → Nat → Int32 → Int32 → Nat → Nat → cS → Prop) (x1 : Nat) (x2 : Nat) (x3 : Nat) (x4 : Nat) (x5 : Nat) (x6 : Nat) (x7 : Nat) (x8 : Nat) (x9 : Nat) (x10 : Nat) (x11 : Nat) (x12 : Nat) (x13 : Nat) (x14 : Nat) (x15 : Nat) (x16 : Nat) (x17 : Nat) (x19 : Int32) (t0 : Nat) (t1 : Nat) (t2 : Nat) (t3 : Nat) (t4 : Nat) (t5 : Nat) (t6 : Nat) (t7 : Nat) (t8 : Nat) (t9 : Nat) (t10 : Nat) (cd dd : Nat) (S : cS) : Prop :=
ks_L_holds_452 Q dp mc ms L R116 x1 x2 x3 x4 x5 x6 x7 x8 x9 x10 x11 x12 x13 x14 x15 x16 x17 x19 ((nI 1)) t0 t1 t2 t3 t4 t5 t6 t7 t8 t9 t10 cd dd S
def ks_L_holds_389 (Q : Int32 → cS → Prop) (dp : Nat) (mc ms : Nat) (L : Nat) (R116 : Nat → Nat → Nat → Nat → Nat → Nat → Nat → Nat → Nat → Nat → Nat → Nat → Nat → Nat → Nat → Nat → Nat → Int32 → Int32 → Nat → Nat → cS → Prop) (x1 : Nat) (x2 : Nat) (x3 : Nat) (x4 : Nat) (x5 : Nat) (x6 : Nat) (x7 : Nat) (x8 : Nat) (x9 : Nat) (x10 : Nat) (x11 : Nat) (x12 : Nat) (x13 : Nat) (x14 : Nat) (x15 : Nat) (x16 : Nat) (x17 : Nat) (x18 : Int32) (x19 : Int32) (x20 : Int32) (x21 : Int32) (x22 : Int32) (cd dd : Nat) (S : cS) : Prop :=
((((nI 21)) ≤ x21 →
  ks_L_holds_460 Q dp mc ms L R116 x1 x2 x3 x4 x5 x6 x7 x8 x9 x10 x11 x12 x13 x14 x15 x16 x17 x18 x19 x20 x21 x22 cd dd S) ∧
 (¬ ((nI 21)) ≤ x21 →
  ((x22 = 0 →
    ks_L_holds_460 Q dp mc ms L R116 x1 x2 x3 x4 x5 x6 x7 x8 x9 x10 x11 x12 x13 x14 x15 x16 x17 x18 x19 x20 x21 x22 cd dd S) ∧
   (¬ x22 = 0 →
    ((((nI 16)) ≤ x21 →
      ((¬ x21 = ((nI 20)) →
        ks_L_holds_451 Q dp mc ms L R116 x1 x2 x3 x4 x5 x6 x7 x8 x9 x10 x11 x12 x13 x14 x15 x16 x17 x19 x17 x12 x11 x10 x15 x8 x7 x6 x5 x4 x1 cd dd S) ∧
       (x21 = ((nI 20)) →
        ((¬ ((x20 - x20 / ((nI 4)) * ((nI 4)))) = 0 →
          ks_L_holds_451 Q dp mc ms L R116 x1 x2 x3 x4 x5 x6 x7 x8 x9 x10 x11 x12 x13 x14 x15 x16 x17 x19 x17 x12 x11 x10 x15 x8 x7 x6 x5 x4 x1 cd dd S) ∧
         (((x20 - x20 / ((nI 4)) * ((nI 4)))) = 0 →
          ks_L_holds_452 Q dp mc ms L R116 x1 x2 x3 x4 x5 x6 x7 x8 x9 x10 x11 x12 x13 x14 x15 x16 x17 x19 ((nI 2)) x17 x12 x11 x10 x15 x8 x7 x6 x5 x4 x1 cd dd S))))) ∧
     (¬ ((nI 16)) ≤ x21 →
      ks_L_holds_452 Q dp mc ms L R116 x1 x2 x3 x4 x5 x6 x7 x8 x9 x10 x11 x12 x13 x14 x15 x16 x17 x19 ((nI 0)) x17 x12 x11 x10 x15 x8 x7 x6 x5 x4 x1 cd dd S))))))
def ks_L_holds_384 (Q : Int32 → cS → Prop) (dp : Nat) (mc ms : Nat) (L : Nat) (R116 : Nat → Nat → Nat → Nat → Nat → Nat → Nat → Nat → Nat → Nat → Nat → Nat → Nat → Nat → Nat → Nat → Nat → Int32 → Int32 → Nat → Nat → cS → Prop) (x1 : Nat) (x2 : Nat) (x3 : Nat) (x4 : Nat) (x5 : Nat) (x6 : Nat) (x7 : Nat) (x8 : Nat) (x9 : Nat) (x10 : Nat) (x11 : Nat) (x12 : Nat) (x13 : Nat) (x14 : Nat) (x15 : Nat) (x16 : Nat) (x17 : Nat) (x19 : Int32) (t0 : Int32) (cd dd : Nat) (S : cS) : Prop :=
ks_L_holds_796 Q dp mc ms L R116 x1 x2 x3 x4 x5 x6 x7 x8 x9 x10 x11 x12 x13 x14 x15 x16 x17 t0 x19 cd dd S
def ks_L_holds_367 (Q : Int32 → cS → Prop) (dp : Nat) (mc ms : Nat) (L : Nat) (R116 : Nat → Nat → Nat → Nat → Nat → Nat → Nat → Nat → Nat → Nat → Nat → Nat → Nat → Nat → Nat → Nat → Nat → Int32 → Int32 → Nat → Nat → cS → Prop) (x1 : Nat) (x2 : Nat) (x3 : Nat) (x4 : Nat) (x5 : Nat) (x6 : Nat) (x7 : Nat) (x8 : Nat) (x9 : Nat) (x10 : Nat) (x11 : Nat) (x12 : Nat) (x13 : Nat) (x14 : Nat) (x15 : Nat) (x16 : Nat) (x17 : Nat) (x19 : Int32) (t0 : Int32) (cd dd : Nat) (S : cS) : Prop :=
(∃ mc94 ms95 : Nat, cd + mc94 ≤ mc ∧ dd + ms95 ≤ ms ∧ (kw_L_did (fun r_96 S_96 => 
((¬ r_96 = t0 →
  ks_L_holds_384 Q dp mc ms L R116 x1 x2 x3 x4 x5 x6 x7 x8 x9 x10 x11 x12 x13 x14 x15 x16 x17 x19 ((nI 0)) (cd + mc94) (dd + ms95) S_96) ∧
 (r_96 = t0 →
  ks_L_holds_384 Q dp mc ms L R116 x1 x2 x3 x4 x5 x6 x7 x8 x9 x10 x11 x12 x13 x14 x15 x16 x17 x19 ((nI 1)) (cd + mc94) (dd + ms95) S_96))) dp mc94 ms95 x1 ((nI 0)) S))
def ks_L_holds_313 (Q : Int32 → cS → Prop) (dp : Nat) (mc ms : Nat) (L : Nat) (R116 : Nat → Nat → Nat → Nat → Nat → Nat → Nat → Nat → Nat → Nat → Nat → Nat → Nat → Nat → Nat → Nat → Nat → Int32 → Int32 → Nat → Nat → cS → Prop) (x1 : Nat) (x2 : Nat) (x3 : Nat) (x4 : Nat) (x5 : Nat) (x6 : Nat) (x7 : Nat) (x8 : Nat) (x9 : Nat) (x10 : Nat) (x11 : Nat) (x12 : Nat) (x13 : Nat) (x14 : Nat) (x15 : Nat) (x16 : Nat) (x17 : Nat) (x19 : Int32) (t0 : Int32) (cd dd : Nat) (S : cS) : Prop :=
ks_L_holds_796 Q dp mc ms L R116 x1 x2 x3 x4 x5 x6 x7 x8 x9 x10 x11 x12 x13 x14 x15 x16 x17 t0 x19 cd dd S
def ks_L_holds_292 (Q : Int32 → cS → Prop) (dp : Nat) (mc ms : Nat) (L : Nat) (R116 : Nat → Nat → Nat → Nat → Nat → Nat → Nat → Nat → Nat → Nat → Nat → Nat → Nat → Nat → Nat → Nat → Nat → Int32 → Int32 → Nat → Nat → cS → Prop) (x1 : Nat) (x2 : Nat) (x3 : Nat) (x4 : Nat) (x5 : Nat) (x6 : Nat) (x7 : Nat) (x8 : Nat) (x9 : Nat) (x10 : Nat) (x11 : Nat) (x12 : Nat) (x13 : Nat) (x14 : Nat) (x15 : Nat) (x16 : Nat) (x17 : Nat) (x19 : Int32) (x20 : Int32) (t0 : Int32) (cd dd : Nat) (S : cS) : Prop :=
(∃ mc98 ms99 : Nat, cd + mc98 ≤ mc ∧ dd + ms99 ≤ ms ∧ (kw_L_deleted (fun r_100 S_100 => 
((¬ r_100 = t0 →
  ks_L_holds_313 Q dp mc ms L R116 x1 x2 x3 x4 x5 x6 x7 x8 x9 x10 x11 x12 x13 x14 x15 x16 x17 x19 ((nI 0)) (cd + mc98) (dd + ms99) S_100) ∧
 (r_100 = t0 →
  ks_L_holds_313 Q dp mc ms L R116 x1 x2 x3 x4 x5 x6 x7 x8 x9 x10 x11 x12 x13 x14 x15 x16 x17 x19 ((nI 1)) (cd + mc98) (dd + ms99) S_100))) dp mc98 ms99 x1 ((x20 - x20 / ((nI 10)) * ((nI 10)))) S))
def ks_L_holds_243 (Q : Int32 → cS → Prop) (dp : Nat) (mc ms : Nat) (L : Nat) (R116 : Nat → Nat → Nat → Nat → Nat → Nat → Nat → Nat → Nat → Nat → Nat → Nat → Nat → Nat → Nat → Nat → Nat → Int32 → Int32 → Nat → Nat → cS → Prop) (x1 : Nat) (x2 : Nat) (x3 : Nat) (x4 : Nat) (x5 : Nat) (x6 : Nat) (x7 : Nat) (x8 : Nat) (x9 : Nat) (x10 : Nat) (x11 : Nat) (x12 : Nat) (x13 : Nat) (x14 : Nat) (x15 : Nat) (x16 : Nat) (x17 : Nat) (x18 : Int32) (x19 : Int32) (x20 : Int32) (x21 : Int32) (x22 : Int32) (cd dd : Nat) (S : cS) : Prop :=
((¬ x21 = ((nI 9)) →
  ((((nI 14)) ≤ x21 →
    ks_L_holds_389 Q dp mc ms L R116 x1 x2 x3 x4 x5 x6 x7 x8 x9 x10 x11 x12 x13 x14 x15 x16 x17 x18 x19 x20 x21 x22 cd dd S) ∧
   (¬ ((nI 14)) ≤ x21 →
    ((x22 = 0 →
      ks_L_holds_389 Q dp mc ms L R116 x1 x2 x3 x4 x5 x6 x7 x8 x9 x10 x11 x12 x13 x14 x15 x16 x17 x18 x19 x20 x21 x22 cd dd S) ∧
     (¬ x22 = 0 →
      cX S x17 14 ((nI 6)) ∧ (((¬ ((cI S x17 ((nI 6)).toNatClampNeg)) = ((nI 1)) →
        (cd ≤ mc ∧ dd ≤ ms) ∧ (k_L_flushed (fun r_93 S_93 => 
        ks_L_holds_367 Q dp mc ms L R116 x1 x2 x3 x4 x5 x6 x7 x8 x9 x10 x11 x12 x13 x14 x15 x16 x17 x19 r_93 cd dd S_93) dp x2 x3 x4 x5 x6 x7 x8 x10 x11 x12 x17 S)) ∧
       (((cI S x17 ((nI 6)).toNatClampNeg)) = ((nI 1)) →
        ks_L_holds_367 Q dp mc ms L R116 x1 x2 x3 x4 x5 x6 x7 x8 x9 x10 x11 x12 x13 x14 x15 x16 x17 x19 (((-7))) cd dd S)))))))) ∧
 (x21 = ((nI 9)) →
  cX S x17 14 ((nI 6)) ∧ (((¬ ((cI S x17 ((nI 6)).toNatClampNeg)) = ((nI 1)) →
    (cd ≤ mc ∧ dd ≤ ms) ∧ (k_L_deletes (fun r_97 S_97 => 
    ((r_97 ≤ 0 →
      ks_L_holds_292 Q dp mc ms L R116 x1 x2 x3 x4 x5 x6 x7 x8 x9 x10 x11 x12 x13 x14 x15 x16 x17 x19 x20 ((nI 0)) cd dd S_97) ∧
     (¬ r_97 ≤ 0 →
      ks_L_holds_292 Q dp mc ms L R116 x1 x2 x3 x4 x5 x6 x7 x8 x9 x10 x11 x12 x13 x14 x15 x16 x17 x19 x20 ((nI 1)) cd dd S_97))) dp x2 x3 x4 x5 x6 x8 x17 ((x20 - x20 / ((nI 10)) * ((nI 10)))) S)) ∧
   (((cI S x17 ((nI 6)).toNatClampNeg)) = ((nI 1)) →
    ks_L_holds_292 Q dp mc ms L R116 x1 x2 x3 x4 x5 x6 x7 x8 x9 x10 x11 x12 x13 x14 x15 x16 x17 x19 x20 (((-7))) cd dd S)))))
def ks_L_holds_193 (Q : Int32 → cS → Prop) (dp : Nat) (mc ms : Nat) (L : Nat) (R116 : Nat → Nat → Nat → Nat → Nat → Nat → Nat → Nat → Nat → Nat → Nat → Nat → Nat → Nat → Nat → Nat → Nat → Int32 → Int32 → Nat → Nat → cS → Prop) (x1 : Nat) (x2 : Nat) (x3 : Nat) (x4 : Nat) (x5 : Nat) (x6 : Nat) (x7 : Nat) (x8 : Nat) (x9 : Nat) (x10 : Nat) (x11 : Nat) (x12 : Nat) (x13 : Nat) (x14 : Nat) (x15 : Nat) (x16 : Nat) (x17 : Nat) (x18 : Int32) (x19 : Int32) (x20 : Int32) (x21 : Int32) (t0 : Int32) (cd dd : Nat) (S : cS) : Prop :=
((((nI 9)) ≤ x21 →
  ks_L_holds_243 Q dp mc ms L R116 x1 x2 x3 x4 x5 x6 x7 x8 x9 x10 x11 x12 x13 x14 x15 x16 x17 x18 x19 x20 x21 t0 cd dd S) ∧
 (¬ ((nI 9)) ≤ x21 →
  ((t0 = 0 →
    ks_L_holds_243 Q dp mc ms L R116 x1 x2 x3 x4 x5 x6 x7 x8 x9 x10 x11 x12 x13 x14 x15 x16 x17 x18 x19 x20 x21 t0 cd dd S) ∧
   (¬ t0 = 0 →
    (0 ≤ ((((((nI 3)) * x19)) + ((nI 2)))) ∧ (0 : Int32) < (((10000000)))) ∧ ((cd ≤ mc ∧ dd ≤ ms) ∧ (∀ r101 : Int32, 0 ≤ r101 → r101 < (((10000000))) → (∃ mc102 ms103 : Nat, cd + mc102 ≤ mc ∧ dd + ms103 ≤ ms ∧ (k_L_isAdded (fun r_104 S_104 => 
    ks_L_holds_796 Q dp mc ms L R116 x1 x2 x3 x4 x5 x6 x7 x8 x9 x10 x11 x12 x13 x14 x15 x16 x17 r_104 x19 (cd + mc102) (dd + ms103) S_104) dp mc102 ms103 x1 x2 x3 x4 x5 x6 x8 x17 x20 r101 S))))))))
def ks_L_holds_192 (Q : Int32 → cS → Prop) (dp : Nat) (mc ms : Nat) (L : Nat) (R116 : Nat → Nat → Nat → Nat → Nat → Nat → Nat → Nat → Nat → Nat → Nat → Nat → Nat → Nat → Nat → Nat → Nat → Int32 → Int32 → Nat → Nat → cS → Prop) (x1 : Nat) (x2 : Nat) (x3 : Nat) (x4 : Nat) (x5 : Nat) (x6 : Nat) (x7 : Nat) (x8 : Nat) (x9 : Nat) (x10 : Nat) (x11 : Nat) (x12 : Nat) (x13 : Nat) (x14 : Nat) (x15 : Nat) (x16 : Nat) (x17 : Nat) (x18 : Int32) (x19 : Int32) (x20 : Int32) (x21 : Int32) (cd dd : Nat) (S : cS) : Prop :=
ks_L_holds_193 Q dp mc ms L R116 x1 x2 x3 x4 x5 x6 x7 x8 x9 x10 x11 x12 x13 x14 x15 x16 x17 x18 x19 x20 x21 ((nI 0)) cd dd S
def ks_L_holds_163 (Q : Int32 → cS → Prop) (dp : Nat) (mc ms : Nat) (L : Nat) (R116 : Nat → Nat → Nat → Nat → Nat → Nat → Nat → Nat → Nat → Nat → Nat → Nat → Nat → Nat → Nat → Nat → Nat → Int32 → Int32 → Nat → Nat → cS → Prop) (x1 : Nat) (x2 : Nat) (x3 : Nat) (x4 : Nat) (x5 : Nat) (x6 : Nat) (x7 : Nat) (x8 : Nat) (x9 : Nat) (x10 : Nat) (x11 : Nat) (x12 : Nat) (x13 : Nat) (x14 : Nat) (x15 : Nat) (x16 : Nat) (x17 : Nat) (x18 : Int32) (x19 : Int32) (x20 : Int32) (t0 : Int32) (cd dd : Nat) (S : cS) : Prop :=
cX S x17 14 ((nI 0)) ∧ (cX S x17 14 ((nI 1)) ∧ (((((nI 60)) ≤ ((((cI S x17 ((nI 0)).toNatClampNeg)) + ((cI S x17 ((nI 1)).toNatClampNeg)))) →
  ks_L_holds_192 Q dp mc ms L R116 x1 x2 x3 x4 x5 x6 x7 x8 x9 x10 x11 x12 x13 x14 x15 x16 x17 x18 x19 x20 t0 cd dd S) ∧
 (¬ ((nI 60)) ≤ ((((cI S x17 ((nI 0)).toNatClampNeg)) + ((cI S x17 ((nI 1)).toNatClampNeg)))) →
  cX S x17 14 ((nI 2)) ∧ (((((nI 27)) ≤ ((cI S x17 ((nI 2)).toNatClampNeg)) →
    ks_L_holds_192 Q dp mc ms L R116 x1 x2 x3 x4 x5 x6 x7 x8 x9 x10 x11 x12 x13 x14 x15 x16 x17 x18 x19 x20 t0 cd dd S) ∧
   (¬ ((nI 27)) ≤ ((cI S x17 ((nI 2)).toNatClampNeg)) →
    ks_L_holds_193 Q dp mc ms L R116 x1 x2 x3 x4 x5 x6 x7 x8 x9 x10 x11 x12 x13 x14 x15 x16 x17 x18 x19 x20 t0 ((nI 1)) cd dd S)))))))
def ks_L_holds_116 (Q : Int32 → cS → Prop) (dp : Nat) (mc ms : Nat) (L : Nat) (R116 : Nat → Nat → Nat → Nat → Nat → Nat → Nat → Nat → Nat → Nat → Nat → Nat → Nat → Nat → Nat → Nat → Nat → Int32 → Int32 → Nat → Nat → cS → Prop) (x1 : Nat) (x2 : Nat) (x3 : Nat) (x4 : Nat) (x5 : Nat) (x6 : Nat) (x7 : Nat) (x8 : Nat) (x9 : Nat) (x10 : Nat) (x11 : Nat) (x12 : Nat) (x13 : Nat) (x14 : Nat) (x15 : Nat) (x16 : Nat) (x17 : Nat) (x18 : Int32) (x19 : Int32) (cd dd : Nat) (S : cS) : Prop :=
((((nI 110)) ≤ x19 →
  ks_L_holds_848 Q dp mc ms L  x1 x2 x4 x5 x6 x8 x9 x10 x11 x12 x17 x18 cd dd S) ∧
 (¬ ((nI 110)) ≤ x19 →
  ((x18 = 0 →
    ks_L_holds_848 Q dp mc ms L  x1 x2 x4 x5 x6 x8 x9 x10 x11 x12 x17 x18 cd dd S) ∧
   (¬ x18 = 0 →
    (0 ≤ ((((((nI 3)) * x19)) + ((nI 1)))) ∧ (0 : Int32) < (((10000000)))) ∧ ((cd ≤ mc ∧ dd ≤ ms) ∧ (∀ r61 : Int32, 0 ≤ r61 → r61 < (((10000000))) → ((((nI 4)) ≤ x19 →
      (0 ≤ ((((nI 3)) * x19)) ∧ (0 : Int32) < ((nI 36))) ∧ ((cd ≤ mc ∧ dd ≤ ms) ∧ (∀ r62 : Int32, 0 ≤ r62 → r62 < ((nI 36)) → ks_L_holds_163 Q dp mc ms L R116 x1 x2 x3 x4 x5 x6 x7 x8 x9 x10 x11 x12 x13 x14 x15 x16 x17 x18 x19 r61 r62 cd dd S))) ∧
     (¬ ((nI 4)) ≤ x19 →
      ks_L_holds_163 Q dp mc ms L R116 x1 x2 x3 x4 x5 x6 x7 x8 x9 x10 x11 x12 x13 x14 x15 x16 x17 x18 x19 r61 ((nI 0)) cd dd S))))))))
def ks_L_holds_116L (Q : Int32 → cS → Prop) (dp : Nat) (mc ms : Nat) (L : Nat)  (x1 : Nat) (x2 : Nat) (x3 : Nat) (x4 : Nat) (x5 : Nat) (x6 : Nat) (x7 : Nat) (x8 : Nat) (x9 : Nat) (x10 : Nat) (x11 : Nat) (x12 : Nat) (x13 : Nat) (x14 : Nat) (x15 : Nat) (x16 : Nat) (x17 : Nat) (x18 : Int32) (x19 : Int32) (cd dd : Nat) (S : cS) : Prop :=
  lfp (X := Nat × Nat × Nat × Nat × Nat × Nat × Nat × Nat × Nat × Nat × Nat × Nat × Nat × Nat × Nat × Nat × Nat × Int32 × Int32 × Nat × Nat × cS) (fun P y => ks_L_holds_116 Q dp mc ms L  (fun b0 b1 b2 b3 b4 b5 b6 b7 b8 b9 b10 b11 b12 b13 b14 b15 b16 b17 b18 b19 b20 S => P (b0, b1, b2, b3, b4, b5, b6, b7, b8, b9, b10, b11, b12, b13, b14, b15, b16, b17, b18, b19, b20, S)) y.1 y.2.1 y.2.2.1 y.2.2.2.1 y.2.2.2.2.1 y.2.2.2.2.2.1 y.2.2.2.2.2.2.1 y.2.2.2.2.2.2.2.1 y.2.2.2.2.2.2.2.2.1 y.2.2.2.2.2.2.2.2.2.1 y.2.2.2.2.2.2.2.2.2.2.1 y.2.2.2.2.2.2.2.2.2.2.2.1 y.2.2.2.2.2.2.2.2.2.2.2.2.1 y.2.2.2.2.2.2.2.2.2.2.2.2.2.1 y.2.2.2.2.2.2.2.2.2.2.2.2.2.2.1 y.2.2.2.2.2.2.2.2.2.2.2.2.2.2.2.1 y.2.2.2.2.2.2.2.2.2.2.2.2.2.2.2.2.1 y.2.2.2.2.2.2.2.2.2.2.2.2.2.2.2.2.2.1 y.2.2.2.2.2.2.2.2.2.2.2.2.2.2.2.2.2.2.1 y.2.2.2.2.2.2.2.2.2.2.2.2.2.2.2.2.2.2.2.1 y.2.2.2.2.2.2.2.2.2.2.2.2.2.2.2.2.2.2.2.2.1 y.2.2.2.2.2.2.2.2.2.2.2.2.2.2.2.2.2.2.2.2.2) (x1, x2, x3, x4, x5, x6, x7, x8, x9, x10, x11, x12, x13, x14, x15, x16, x17, x18, x19, cd, dd, S)
def ks_L_holds (Q : Int32 → cS → Prop) (dp : Nat) (mc ms : Nat) (L : Nat)  (S : cS) : Prop :=
(0 + 1 ≤ mc ∧ 0 + 19 ≤ ms) ∧ (∀ q1 : Nat, q1 ∉ cL S → ∀ S2 : cS, S2 = cNew S q1 11 → (∃ mc3 ms4 : Nat, 0 + 1 + mc3 ≤ mc ∧ 0 + 19 + ms4 ≤ ms ∧ (k_X11_init (fun S_5 => 
(∃ n6 : Nat, (nI 64) = nI n6 ∧ n6 < 2 ^ 20 ∧ 0 + 1 + mc3 + 1 ≤ mc ∧ 0 + 19 + ms4 + n6 ≤ ms ∧ (∀ q7 : Nat, q7 ∉ cL S_5 → ∀ S8 : cS, S8 = cNewA S_5 q7 15 n6 → (∃ n9 : Nat, (nI 12) = nI n9 ∧ n9 < 2 ^ 20 ∧ 0 + 1 + mc3 + 1 + 1 ≤ mc ∧ 0 + 19 + ms4 + n6 + n9 ≤ ms ∧ (∀ q10 : Nat, q10 ∉ cL S8 → ∀ S11 : cS, S11 = cNewA S8 q10 15 n9 → (∃ n12 : Nat, (nI 30) = nI n12 ∧ n12 < 2 ^ 20 ∧ 0 + 1 + mc3 + 1 + 1 + 1 ≤ mc ∧ 0 + 19 + ms4 + n6 + n9 + n12 ≤ ms ∧ (∀ q13 : Nat, q13 ∉ cL S11 → ∀ S14 : cS, S14 = cNewA S11 q13 15 n12 → (∃ n15 : Nat, (nI 30) = nI n15 ∧ n15 < 2 ^ 20 ∧ 0 + 1 + mc3 + 1 + 1 + 1 + 1 ≤ mc ∧ 0 + 19 + ms4 + n6 + n9 + n12 + n15 ≤ ms ∧ (∀ q16 : Nat, q16 ∉ cL S14 → ∀ S17 : cS, S17 = cNewA S14 q16 14 n15 → (∃ n18 : Nat, (nI 30) = nI n18 ∧ n18 < 2 ^ 20 ∧ 0 + 1 + mc3 + 1 + 1 + 1 + 1 + 1 ≤ mc ∧ 0 + 19 + ms4 + n6 + n9 + n12 + n15 + n18 ≤ ms ∧ (∀ q19 : Nat, q19 ∉ cL S17 → ∀ S20 : cS, S20 = cNewA S17 q19 14 n18 → (∃ n21 : Nat, (nI 30) = nI n21 ∧ n21 < 2 ^ 20 ∧ 0 + 1 + mc3 + 1 + 1 + 1 + 1 + 1 + 1 ≤ mc ∧ 0 + 19 + ms4 + n6 + n9 + n12 + n15 + n18 + n21 ≤ ms ∧ (∀ q22 : Nat, q22 ∉ cL S20 → ∀ S23 : cS, S23 = cNewA S20 q22 14 n21 → (∃ n24 : Nat, (nI 30) = nI n24 ∧ n24 < 2 ^ 20 ∧ 0 + 1 + mc3 + 1 + 1 + 1 + 1 + 1 + 1 + 1 ≤ mc ∧ 0 + 19 + ms4 + n6 + n9 + n12 + n15 + n18 + n21 + n24 ≤ ms ∧ (∀ q25 : Nat, q25 ∉ cL S23 → ∀ S26 : cS, S26 = cNewA S23 q25 14 n24 → (∃ n27 : Nat, (nI 64) = nI n27 ∧ n27 < 2 ^ 20 ∧ 0 + 1 + mc3 + 1 + 1 + 1 + 1 + 1 + 1 + 1 + 1 ≤ mc ∧ 0 + 19 + ms4 + n6 + n9 + n12 + n15 + n18 + n21 + n24 + n27 ≤ ms ∧ (∀ q28 : Nat, q28 ∉ cL S26 → ∀ S29 : cS, S29 = cNewA S26 q28 14 n27 → (∃ n30 : Nat, (nI 64) = nI n30 ∧ n30 < 2 ^ 20 ∧ 0 + 1 + mc3 + 1 + 1 + 1 + 1 + 1 + 1 + 1 + 1 + 1 ≤ mc ∧ 0 + 19 + ms4 + n6 + n9 + n12 + n15 + n18 + n21 + n24 + n27 + n30 ≤ ms ∧ (∀ q31 : Nat, q31 ∉ cL S29 → ∀ S32 : cS, S32 = cNewA S29 q31 14 n30 → (∃ n33 : Nat, (nI 64) = nI n33 ∧ n33 < 2 ^ 20 ∧ 0 + 1 + mc3 + 1 + 1 + 1 + 1 + 1 + 1 + 1 + 1 + 1 + 1 ≤ mc ∧ 0 + 19 + ms4 + n6 + n9 + n12 + n15 + n18 + n21 + n24 + n27 + n30 + n33 ≤ ms ∧ (∀ q34 : Nat, q34 ∉ cL S32 → ∀ S35 : cS, S35 = cNewA S32 q34 14 n33 → (∃ n36 : Nat, (nI 64) = nI n36 ∧ n36 < 2 ^ 20 ∧ 0 + 1 + mc3 + 1 + 1 + 1 + 1 + 1 + 1 + 1 + 1 + 1 + 1 + 1 ≤ mc ∧ 0 + 19 + ms4 + n6 + n9 + n12 + n15 + n18 + n21 + n24 + n27 + n30 + n33 + n36 ≤ ms ∧ (∀ q37 : Nat, q37 ∉ cL S35 → ∀ S38 : cS, S38 = cNewA S35 q37 14 n36 → (∃ n39 : Nat, (nI 8) = nI n39 ∧ n39 < 2 ^ 20 ∧ 0 + 1 + mc3 + 1 + 1 + 1 + 1 + 1 + 1 + 1 + 1 + 1 + 1 + 1 + 1 ≤ mc ∧ 0 + 19 + ms4 + n6 + n9 + n12 + n15 + n18 + n21 + n24 + n27 + n30 + n33 + n36 + n39 ≤ ms ∧ (∀ q40 : Nat, q40 ∉ cL S38 → ∀ S41 : cS, S41 = cNewA S38 q40 14 n39 → (∃ n42 : Nat, (nI 40) = nI n42 ∧ n42 < 2 ^ 20 ∧ 0 + 1 + mc3 + 1 + 1 + 1 + 1 + 1 + 1 + 1 + 1 + 1 + 1 + 1 + 1 + 1 ≤ mc ∧ 0 + 19 + ms4 + n6 + n9 + n12 + n15 + n18 + n21 + n24 + n27 + n30 + n33 + n36 + n39 + n42 ≤ ms ∧ (∀ q43 : Nat, q43 ∉ cL S41 → ∀ S44 : cS, S44 = cNewA S41 q43 14 n42 → (∃ n45 : Nat, (nI 32) = nI n45 ∧ n45 < 2 ^ 20 ∧ 0 + 1 + mc3 + 1 + 1 + 1 + 1 + 1 + 1 + 1 + 1 + 1 + 1 + 1 + 1 + 1 + 1 ≤ mc ∧ 0 + 19 + ms4 + n6 + n9 + n12 + n15 + n18 + n21 + n24 + n27 + n30 + n33 + n36 + n39 + n42 + n45 ≤ ms ∧ (∀ q46 : Nat, q46 ∉ cL S44 → ∀ S47 : cS, S47 = cNewA S44 q46 14 n45 → (∃ n48 : Nat, (nI 30) = nI n48 ∧ n48 < 2 ^ 20 ∧ 0 + 1 + mc3 + 1 + 1 + 1 + 1 + 1 + 1 + 1 + 1 + 1 + 1 + 1 + 1 + 1 + 1 + 1 ≤ mc ∧ 0 + 19 + ms4 + n6 + n9 + n12 + n15 + n18 + n21 + n24 + n27 + n30 + n33 + n36 + n39 + n42 + n45 + n48 ≤ ms ∧ (∀ q49 : Nat, q49 ∉ cL S47 → ∀ S50 : cS, S50 = cNewA S47 q49 14 n48 → (∃ n51 : Nat, (nI 17) = nI n51 ∧ n51 < 2 ^ 20 ∧ 0 + 1 + mc3 + 1 + 1 + 1 + 1 + 1 + 1 + 1 + 1 + 1 + 1 + 1 + 1 + 1 + 1 + 1 + 1 ≤ mc ∧ 0 + 19 + ms4 + n6 + n9 + n12 + n15 + n18 + n21 + n24 + n27 + n30 + n33 + n36 + n39 + n42 + n45 + n48 + n51 ≤ ms ∧ (∀ q52 : Nat, q52 ∉ cL S50 → ∀ S53 : cS, S53 = cNewA S50 q52 14 n51 → (∃ mc54 ms55 : Nat, 0 + 1 + mc3 + 1 + 1 + 1 + 1 + 1 + 1 + 1 + 1 + 1 + 1 + 1 + 1 + 1 + 1 + 1 + 1 + mc54 ≤ mc ∧ 0 + 19 + ms4 + n6 + n9 + n12 + n15 + n18 + n21 + n24 + n27 + n30 + n33 + n36 + n39 + n42 + n45 + n48 + n51 + ms55 ≤ ms ∧ (k_L_isReady (fun r_56 S_56 => 
cX S_56 q52 14 ((nI 5)) ∧ (∀ S57 : cS, S57 = cSI S_56 q52 ((nI 5)).toNatClampNeg (((-1))) → ks_L_holds_116L Q dp mc ms L  q1 q7 q10 q13 q16 q19 q22 q25 q28 q31 q34 q37 q40 q43 q46 q49 q52 r_56 (((nI 0))) (0 + 1 + mc3 + 1 + 1 + 1 + 1 + 1 + 1 + 1 + 1 + 1 + 1 + 1 + 1 + 1 + 1 + 1 + 1 + mc54) (0 + 19 + ms4 + n6 + n9 + n12 + n15 + n18 + n21 + n24 + n27 + n30 + n33 + n36 + n39 + n42 + n45 + n48 + n51 + ms55) S57)) dp mc54 ms55 q1 S53))))))))))))))))))))))))))))))))))) dp mc3 ms4 q1 S2)))
