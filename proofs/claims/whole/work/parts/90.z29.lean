/-! the law's cases as predicates over both worlds -/
def lw_tail (R : Int32 → Nat → Nat → cS → (Nat → Int32) → (Nat → Nat → Int32) → (Nat → Nat → Int64) → Prop) (x4 : Int32) (cd dd : Nat) (S : cS) (v : Nat → Int32) (f : Nat → Nat → Int32) (g : Nat → Nat → Int64) : Prop := ∀ y : Int32, y = x4 + nI 6 → R y cd dd S v f g
def lw_c0 (R : Int32 → Nat → Nat → cS → (Nat → Int32) → (Nat → Nat → Int32) → (Nat → Nat → Int64) → Prop) (xs : Nat → Int32) (L dp x out : Nat) (x4 : Int32) (cd dd : Nat) (S : cS) (v : Nat → Int32) (f : Nat → Nat → Int32) (g : Nat → Nat → Int64) : Prop :=
vp_in ((x4 + ((nI 1)))) L ∧ ((∃ mc2 ms3 : Nat, (cd + mc2 ≤ 601024 ∧ dd + ms3 ≤ 7293033) ∧ (kw_L_type (fun r_1 S_1 =>
vp_in ((x4 + ((nI 1)))) L ∧ ((cd + mc2 ≤ 601024 ∧ dd + ms3 ≤ 7293033) ∧ (r_type (fun r_4 v_4 f_4 g_4 =>
(cd + mc2 ≤ 601024 ∧ dd + ms3 ≤ 7293033) ∧ (r_thrown (fun r_5 v_5 f_5 g_5 =>
r_5 = r_1 ∧ (((¬ r_1 = 0 →
  lw_tail R x4 (cd + mc2) (dd + ms3) S_1 v_5 f_5 g_5) ∧
 (r_1 = 0 →
  cX S_1 out 15 ((nI 0)) ∧ ((cJ S_1 out ((nI 0)).toNatClampNeg) = ((r_4).toInt64) ∧ (lw_tail R x4 (cd + mc2) (dd + ms3) S_1 v_5 f_5 g_5))))))  v_4 f_4 g_4)) (((((xs ((x4 + ((nI 1)))).toNatClampNeg)).toUInt32 % 65536).toInt32)) v f g))) dp mc2 ms3 x (((((xs ((x4 + ((nI 1)))).toNatClampNeg)).toUInt32 % 65536).toInt32)) out S)))
def lw_c1 (R : Int32 → Nat → Nat → cS → (Nat → Int32) → (Nat → Nat → Int32) → (Nat → Nat → Int64) → Prop) (xs : Nat → Int32) (L dp x out : Nat) (x4 : Int32) (cd dd : Nat) (S : cS) (v : Nat → Int32) (f : Nat → Nat → Int32) (g : Nat → Nat → Int64) : Prop :=
cA S x 11 ∧ ((∃ mc2 ms3 : Nat, (cd + mc2 ≤ 601024 ∧ dd + ms3 ≤ 7293033) ∧ (k_X11_wipe (fun r_1 S_1 =>
(cd + mc2 ≤ 601024 ∧ dd + ms3 ≤ 7293033) ∧ (r_wipe (fun r_4 v_4 f_4 g_4 =>
r_1 = r_4 ∧ (lw_tail R x4 (cd + mc2) (dd + ms3) S_1 v_4 f_4 g_4))  v f g)) dp mc2 ms3 x S)))
def lw_c2 (R : Int32 → Nat → Nat → cS → (Nat → Int32) → (Nat → Nat → Int32) → (Nat → Nat → Int64) → Prop) (xs : Nat → Int32) (L dp x out : Nat) (x4 : Int32) (cd dd : Nat) (S : cS) (v : Nat → Int32) (f : Nat → Nat → Int32) (g : Nat → Nat → Int64) : Prop :=
(∃ mc2 ms3 : Nat, (cd + mc2 ≤ 601024 ∧ dd + ms3 ≤ 7293033) ∧ (kw_L_stop (fun r_1 S_1 =>
(cd + mc2 ≤ 601024 ∧ dd + ms3 ≤ 7293033) ∧ (r_stop (fun r_4 v_4 f_4 g_4 =>
(cd + mc2 ≤ 601024 ∧ dd + ms3 ≤ 7293033) ∧ (r_thrown (fun r_5 v_5 f_5 g_5 =>
r_5 = r_1 ∧ (((¬ r_1 = 0 →
  lw_tail R x4 (cd + mc2) (dd + ms3) S_1 v_5 f_5 g_5) ∧
 (r_1 = 0 →
  cX S_1 out 15 ((nI 0)) ∧ ((cJ S_1 out ((nI 0)).toNatClampNeg) = ((r_4).toInt64) ∧ (lw_tail R x4 (cd + mc2) (dd + ms3) S_1 v_5 f_5 g_5))))))  v_4 f_4 g_4))  v f g)) dp mc2 ms3 x out S))
def lw_c3 (R : Int32 → Nat → Nat → cS → (Nat → Int32) → (Nat → Nat → Int32) → (Nat → Nat → Int64) → Prop) (xs : Nat → Int32) (L dp x out : Nat) (x4 : Int32) (cd dd : Nat) (S : cS) (v : Nat → Int32) (f : Nat → Nat → Int32) (g : Nat → Nat → Int64) : Prop :=
(∃ mc2 ms3 : Nat, (cd + mc2 ≤ 601024 ∧ dd + ms3 ≤ 7293033) ∧ (kw_L_synonym (fun r_1 S_1 =>
(cd + mc2 ≤ 601024 ∧ dd + ms3 ≤ 7293033) ∧ (r_synonym (fun r_4 v_4 f_4 g_4 =>
(cd + mc2 ≤ 601024 ∧ dd + ms3 ≤ 7293033) ∧ (r_thrown (fun r_5 v_5 f_5 g_5 =>
r_5 = r_1 ∧ (((¬ r_1 = 0 →
  lw_tail R x4 (cd + mc2) (dd + ms3) S_1 v_5 f_5 g_5) ∧
 (r_1 = 0 →
  cX S_1 out 15 ((nI 0)) ∧ ((cJ S_1 out ((nI 0)).toNatClampNeg) = ((r_4).toInt64) ∧ (lw_tail R x4 (cd + mc2) (dd + ms3) S_1 v_5 f_5 g_5))))))  v_4 f_4 g_4))  v f g)) dp mc2 ms3 x out S))
def lw_c4 (R : Int32 → Nat → Nat → cS → (Nat → Int32) → (Nat → Nat → Int32) → (Nat → Nat → Int64) → Prop) (xs : Nat → Int32) (L dp x out : Nat) (x4 : Int32) (cd dd : Nat) (S : cS) (v : Nat → Int32) (f : Nat → Nat → Int32) (g : Nat → Nat → Int64) : Prop :=
vp_in ((x4 + ((nI 1)))) L ∧ ((∃ mc2 ms3 : Nat, (cd + mc2 ≤ 601024 ∧ dd + ms3 ≤ 7293033) ∧ (kw_L_text (fun r_1 S_1 =>
vp_in ((x4 + ((nI 1)))) L ∧ ((cd + mc2 ≤ 601024 ∧ dd + ms3 ≤ 7293033) ∧ (r_text (fun r_4 v_4 f_4 g_4 =>
(cd + mc2 ≤ 601024 ∧ dd + ms3 ≤ 7293033) ∧ (r_thrown (fun r_5 v_5 f_5 g_5 =>
r_5 = r_1 ∧ (((¬ r_1 = 0 →
  lw_tail R x4 (cd + mc2) (dd + ms3) S_1 v_5 f_5 g_5) ∧
 (r_1 = 0 →
  cX S_1 out 15 ((nI 0)) ∧ ((cJ S_1 out ((nI 0)).toNatClampNeg) = ((r_4).toInt64) ∧ (lw_tail R x4 (cd + mc2) (dd + ms3) S_1 v_5 f_5 g_5))))))  v_4 f_4 g_4)) ((xs ((x4 + ((nI 1)))).toNatClampNeg)) v f g))) dp mc2 ms3 x ((xs ((x4 + ((nI 1)))).toNatClampNeg)) out S)))
def lw_c5 (R : Int32 → Nat → Nat → cS → (Nat → Int32) → (Nat → Nat → Int32) → (Nat → Nat → Int64) → Prop) (xs : Nat → Int32) (L dp x out : Nat) (x4 : Int32) (cd dd : Nat) (S : cS) (v : Nat → Int32) (f : Nat → Nat → Int32) (g : Nat → Nat → Int64) : Prop :=
vp_in ((x4 + ((nI 1)))) L ∧ (vp_in ((x4 + ((nI 2)))) L ∧ ((∃ mc2 ms3 : Nat, (cd + mc2 ≤ 601024 ∧ dd + ms3 ≤ 7293033) ∧ (kw_L_columns (fun r_1 S_1 =>
vp_in ((x4 + ((nI 1)))) L ∧ (vp_in ((x4 + ((nI 2)))) L ∧ ((cd + mc2 ≤ 601024 ∧ dd + ms3 ≤ 7293033) ∧ (r_columns (fun v_4 f_4 g_4 =>
(cd + mc2 ≤ 601024 ∧ dd + ms3 ≤ 7293033) ∧ (r_thrown (fun r_5 v_5 f_5 g_5 =>
r_5 = r_1 ∧ (lw_tail R x4 (cd + mc2) (dd + ms3) S_1 v_5 f_5 g_5))  v_4 f_4 g_4)) ((xs ((x4 + ((nI 1)))).toNatClampNeg)) ((xs ((x4 + ((nI 2)))).toNatClampNeg)) v f g)))) dp mc2 ms3 x ((xs ((x4 + ((nI 1)))).toNatClampNeg)) ((xs ((x4 + ((nI 2)))).toNatClampNeg)) S))))
def lw_c6 (R : Int32 → Nat → Nat → cS → (Nat → Int32) → (Nat → Nat → Int32) → (Nat → Nat → Int64) → Prop) (xs : Nat → Int32) (L dp x out : Nat) (x4 : Int32) (cd dd : Nat) (S : cS) (v : Nat → Int32) (f : Nat → Nat → Int32) (g : Nat → Nat → Int64) : Prop :=
vp_in ((x4 + ((nI 1)))) L ∧ ((∃ mc2 ms3 : Nat, (cd + mc2 ≤ 601024 ∧ dd + ms3 ≤ 7293033) ∧ (kw_L_add (fun r_1 S_1 =>
vp_in ((x4 + ((nI 1)))) L ∧ ((cd + mc2 ≤ 601024 ∧ dd + ms3 ≤ 7293033) ∧ (r_add (fun r_4 v_4 f_4 g_4 =>
(cd + mc2 ≤ 601024 ∧ dd + ms3 ≤ 7293033) ∧ (r_thrown (fun r_5 v_5 f_5 g_5 =>
r_5 = r_1 ∧ (((¬ r_1 = 0 →
  lw_tail R x4 (cd + mc2) (dd + ms3) S_1 v_5 f_5 g_5) ∧
 (r_1 = 0 →
  cX S_1 out 15 ((nI 0)) ∧ ((cJ S_1 out ((nI 0)).toNatClampNeg) = ((r_4).toInt64) ∧ (lw_tail R x4 (cd + mc2) (dd + ms3) S_1 v_5 f_5 g_5))))))  v_4 f_4 g_4)) ((xs ((x4 + ((nI 1)))).toNatClampNeg)) v f g))) dp mc2 ms3 x ((xs ((x4 + ((nI 1)))).toNatClampNeg)) out S)))
def lw_c7 (R : Int32 → Nat → Nat → cS → (Nat → Int32) → (Nat → Nat → Int32) → (Nat → Nat → Int64) → Prop) (xs : Nat → Int32) (L dp x out : Nat) (x4 : Int32) (cd dd : Nat) (S : cS) (v : Nat → Int32) (f : Nat → Nat → Int32) (g : Nat → Nat → Int64) : Prop :=
vp_in ((x4 + ((nI 1)))) L ∧ ((∃ mc2 ms3 : Nat, (cd + mc2 ≤ 601024 ∧ dd + ms3 ≤ 7293033) ∧ (kw_L_delete (fun r_1 S_1 =>
vp_in ((x4 + ((nI 1)))) L ∧ ((cd + mc2 ≤ 601024 ∧ dd + ms3 ≤ 7293033) ∧ (r_delete (fun r_4 v_4 f_4 g_4 =>
(cd + mc2 ≤ 601024 ∧ dd + ms3 ≤ 7293033) ∧ (r_thrown (fun r_5 v_5 f_5 g_5 =>
r_5 = r_1 ∧ (((¬ r_1 = 0 →
  lw_tail R x4 (cd + mc2) (dd + ms3) S_1 v_5 f_5 g_5) ∧
 (r_1 = 0 →
  cX S_1 out 15 ((nI 0)) ∧ (((r_4 = 0 →
    (cJ S_1 out ((nI 0)).toNatClampNeg) = 0 ∧ (lw_tail R x4 (cd + mc2) (dd + ms3) S_1 v_5 f_5 g_5)) ∧
   (¬ r_4 = 0 →
    (cJ S_1 out ((nI 0)).toNatClampNeg) = 1 ∧ (lw_tail R x4 (cd + mc2) (dd + ms3) S_1 v_5 f_5 g_5))))))))  v_4 f_4 g_4)) ((xs ((x4 + ((nI 1)))).toNatClampNeg)) v f g))) dp mc2 ms3 x ((xs ((x4 + ((nI 1)))).toNatClampNeg)) out S)))
def lw_c8 (R : Int32 → Nat → Nat → cS → (Nat → Int32) → (Nat → Nat → Int32) → (Nat → Nat → Int64) → Prop) (xs : Nat → Int32) (L dp x out : Nat) (x4 : Int32) (cd dd : Nat) (S : cS) (v : Nat → Int32) (f : Nat → Nat → Int32) (g : Nat → Nat → Int64) : Prop :=
(∃ mc2 ms3 : Nat, (cd + mc2 ≤ 601024 ∧ dd + ms3 ≤ 7293033) ∧ (kw_L_flush (fun r_1 S_1 =>
(cd + mc2 ≤ 601024 ∧ dd + ms3 ≤ 7293033) ∧ (r_flush (fun r_4 v_4 f_4 g_4 =>
(cd + mc2 ≤ 601024 ∧ dd + ms3 ≤ 7293033) ∧ (r_thrown (fun r_5 v_5 f_5 g_5 =>
r_5 = r_1 ∧ (((¬ r_1 = 0 →
  lw_tail R x4 (cd + mc2) (dd + ms3) S_1 v_5 f_5 g_5) ∧
 (r_1 = 0 →
  cX S_1 out 15 ((nI 0)) ∧ ((cJ S_1 out ((nI 0)).toNatClampNeg) = ((r_4).toInt64) ∧ (lw_tail R x4 (cd + mc2) (dd + ms3) S_1 v_5 f_5 g_5))))))  v_4 f_4 g_4))  v f g)) dp mc2 ms3 x out S))
def lw_c9 (R : Int32 → Nat → Nat → cS → (Nat → Int32) → (Nat → Nat → Int32) → (Nat → Nat → Int64) → Prop) (xs : Nat → Int32) (L dp x out : Nat) (x4 : Int32) (cd dd : Nat) (S : cS) (v : Nat → Int32) (f : Nat → Nat → Int32) (g : Nat → Nat → Int64) : Prop :=
(∃ mc2 ms3 : Nat, (cd + mc2 ≤ 601024 ∧ dd + ms3 ≤ 7293033) ∧ (kw_L_due (fun r_1 S_1 =>
(cd + mc2 ≤ 601024 ∧ dd + ms3 ≤ 7293033) ∧ (r_due (fun r_4 v_4 f_4 g_4 =>
(cd + mc2 ≤ 601024 ∧ dd + ms3 ≤ 7293033) ∧ (r_thrown (fun r_5 v_5 f_5 g_5 =>
r_5 = r_1 ∧ (((¬ r_1 = 0 →
  lw_tail R x4 (cd + mc2) (dd + ms3) S_1 v_5 f_5 g_5) ∧
 (r_1 = 0 →
  cX S_1 out 15 ((nI 0)) ∧ ((cJ S_1 out ((nI 0)).toNatClampNeg) = ((r_4).toInt64) ∧ (lw_tail R x4 (cd + mc2) (dd + ms3) S_1 v_5 f_5 g_5))))))  v_4 f_4 g_4))  v f g)) dp mc2 ms3 x out S))
def lw_c10 (R : Int32 → Nat → Nat → cS → (Nat → Int32) → (Nat → Nat → Int32) → (Nat → Nat → Int64) → Prop) (xs : Nat → Int32) (L dp x out : Nat) (x4 : Int32) (cd dd : Nat) (S : cS) (v : Nat → Int32) (f : Nat → Nat → Int32) (g : Nat → Nat → Int64) : Prop :=
(∃ mc2 ms3 : Nat, (cd + mc2 ≤ 601024 ∧ dd + ms3 ≤ 7293033) ∧ (kw_L_merge (fun r_1 S_1 =>
(cd + mc2 ≤ 601024 ∧ dd + ms3 ≤ 7293033) ∧ (r_merge (fun r_4 v_4 f_4 g_4 =>
(cd + mc2 ≤ 601024 ∧ dd + ms3 ≤ 7293033) ∧ (r_thrown (fun r_5 v_5 f_5 g_5 =>
r_5 = r_1 ∧ (((¬ r_1 = 0 →
  lw_tail R x4 (cd + mc2) (dd + ms3) S_1 v_5 f_5 g_5) ∧
 (r_1 = 0 →
  cX S_1 out 15 ((nI 0)) ∧ ((cJ S_1 out ((nI 0)).toNatClampNeg) = ((r_4).toInt64) ∧ (lw_tail R x4 (cd + mc2) (dd + ms3) S_1 v_5 f_5 g_5))))))  v_4 f_4 g_4))  v f g)) dp mc2 ms3 x out S))
def lw_c11 (R : Int32 → Nat → Nat → cS → (Nat → Int32) → (Nat → Nat → Int32) → (Nat → Nat → Int64) → Prop) (xs : Nat → Int32) (L dp x out : Nat) (x4 : Int32) (cd dd : Nat) (S : cS) (v : Nat → Int32) (f : Nat → Nat → Int32) (g : Nat → Nat → Int64) : Prop :=
(∃ mc2 ms3 : Nat, (cd + mc2 ≤ 601024 ∧ dd + ms3 ≤ 7293033) ∧ (kw_L_step (fun r_1 S_1 =>
(cd + mc2 ≤ 601024 ∧ dd + ms3 ≤ 7293033) ∧ (r_step (fun r_4 v_4 f_4 g_4 =>
(cd + mc2 ≤ 601024 ∧ dd + ms3 ≤ 7293033) ∧ (r_thrown (fun r_5 v_5 f_5 g_5 =>
r_5 = r_1 ∧ (((¬ r_1 = 0 →
  lw_tail R x4 (cd + mc2) (dd + ms3) S_1 v_5 f_5 g_5) ∧
 (r_1 = 0 →
  cX S_1 out 15 ((nI 0)) ∧ ((cJ S_1 out ((nI 0)).toNatClampNeg) = ((r_4).toInt64) ∧ (lw_tail R x4 (cd + mc2) (dd + ms3) S_1 v_5 f_5 g_5))))))  v_4 f_4 g_4))  v f g)) dp mc2 ms3 x out S))
def lw_c12 (R : Int32 → Nat → Nat → cS → (Nat → Int32) → (Nat → Nat → Int32) → (Nat → Nat → Int64) → Prop) (xs : Nat → Int32) (L dp x out : Nat) (x4 : Int32) (cd dd : Nat) (S : cS) (v : Nat → Int32) (f : Nat → Nat → Int32) (g : Nat → Nat → Int64) : Prop :=
(∃ mc2 ms3 : Nat, (cd + mc2 ≤ 601024 ∧ dd + ms3 ≤ 7293033) ∧ (kw_L_giveUp (fun r_1 S_1 =>
(cd + mc2 ≤ 601024 ∧ dd + ms3 ≤ 7293033) ∧ (r_giveUp (fun r_4 v_4 f_4 g_4 =>
(cd + mc2 ≤ 601024 ∧ dd + ms3 ≤ 7293033) ∧ (r_thrown (fun r_5 v_5 f_5 g_5 =>
r_5 = r_1 ∧ (((¬ r_1 = 0 →
  lw_tail R x4 (cd + mc2) (dd + ms3) S_1 v_5 f_5 g_5) ∧
 (r_1 = 0 →
  cX S_1 out 15 ((nI 0)) ∧ ((cJ S_1 out ((nI 0)).toNatClampNeg) = ((r_4).toInt64) ∧ (lw_tail R x4 (cd + mc2) (dd + ms3) S_1 v_5 f_5 g_5))))))  v_4 f_4 g_4))  v f g)) dp mc2 ms3 x out S))
def lw_c13 (R : Int32 → Nat → Nat → cS → (Nat → Int32) → (Nat → Nat → Int32) → (Nat → Nat → Int64) → Prop) (xs : Nat → Int32) (L dp x out : Nat) (x4 : Int32) (cd dd : Nat) (S : cS) (v : Nat → Int32) (f : Nat → Nat → Int32) (g : Nat → Nat → Int64) : Prop :=
(∃ mc2 ms3 : Nat, (cd + mc2 ≤ 601024 ∧ dd + ms3 ≤ 7293033) ∧ (kw_L_prepare (fun r_1 S_1 =>
(cd + mc2 ≤ 601024 ∧ dd + ms3 ≤ 7293033) ∧ (r_prepare (fun r_4 v_4 f_4 g_4 =>
(cd + mc2 ≤ 601024 ∧ dd + ms3 ≤ 7293033) ∧ (r_thrown (fun r_5 v_5 f_5 g_5 =>
r_5 = r_1 ∧ (((¬ r_1 = 0 →
  lw_tail R x4 (cd + mc2) (dd + ms3) S_1 v_5 f_5 g_5) ∧
 (r_1 = 0 →
  cX S_1 out 15 ((nI 0)) ∧ ((cJ S_1 out ((nI 0)).toNatClampNeg) = ((r_4).toInt64) ∧ (lw_tail R x4 (cd + mc2) (dd + ms3) S_1 v_5 f_5 g_5))))))  v_4 f_4 g_4))  v f g)) dp mc2 ms3 x out S))
def lw_c14 (R : Int32 → Nat → Nat → cS → (Nat → Int32) → (Nat → Nat → Int32) → (Nat → Nat → Int64) → Prop) (xs : Nat → Int32) (L dp x out : Nat) (x4 : Int32) (cd dd : Nat) (S : cS) (v : Nat → Int32) (f : Nat → Nat → Int32) (g : Nat → Nat → Int64) : Prop :=
(∃ mc2 ms3 : Nat, (cd + mc2 ≤ 601024 ∧ dd + ms3 ≤ 7293033) ∧ (kw_L_finish (fun r_1 S_1 =>
(cd + mc2 ≤ 601024 ∧ dd + ms3 ≤ 7293033) ∧ (r_finish (fun r_4 v_4 f_4 g_4 =>
(cd + mc2 ≤ 601024 ∧ dd + ms3 ≤ 7293033) ∧ (r_thrown (fun r_5 v_5 f_5 g_5 =>
r_5 = r_1 ∧ (((¬ r_1 = 0 →
  lw_tail R x4 (cd + mc2) (dd + ms3) S_1 v_5 f_5 g_5) ∧
 (r_1 = 0 →
  cX S_1 out 15 ((nI 0)) ∧ ((cJ S_1 out ((nI 0)).toNatClampNeg) = ((r_4).toInt64) ∧ (lw_tail R x4 (cd + mc2) (dd + ms3) S_1 v_5 f_5 g_5))))))  v_4 f_4 g_4))  v f g)) dp mc2 ms3 x out S))
def lw_c15 (R : Int32 → Nat → Nat → cS → (Nat → Int32) → (Nat → Nat → Int32) → (Nat → Nat → Int64) → Prop) (xs : Nat → Int32) (L dp x out : Nat) (x4 : Int32) (cd dd : Nat) (S : cS) (v : Nat → Int32) (f : Nat → Nat → Int32) (g : Nat → Nat → Int64) : Prop :=
(∃ mc2 ms3 : Nat, (cd + mc2 ≤ 601024 ∧ dd + ms3 ≤ 7293033) ∧ (kw_L_drop (fun r_1 S_1 =>
(cd + mc2 ≤ 601024 ∧ dd + ms3 ≤ 7293033) ∧ (r_drop (fun v_4 f_4 g_4 =>
(cd + mc2 ≤ 601024 ∧ dd + ms3 ≤ 7293033) ∧ (r_thrown (fun r_5 v_5 f_5 g_5 =>
r_5 = r_1 ∧ (lw_tail R x4 (cd + mc2) (dd + ms3) S_1 v_5 f_5 g_5))  v_4 f_4 g_4))  v f g)) dp mc2 ms3 x S))
def lw_c16 (R : Int32 → Nat → Nat → cS → (Nat → Int32) → (Nat → Nat → Int32) → (Nat → Nat → Int64) → Prop) (xs : Nat → Int32) (L dp x out : Nat) (x4 : Int32) (cd dd : Nat) (S : cS) (v : Nat → Int32) (f : Nat → Nat → Int32) (g : Nat → Nat → Int64) : Prop :=
vp_in ((x4 + ((nI 1)))) L ∧ ((∃ mc2 ms3 : Nat, (cd + mc2 ≤ 601024 ∧ dd + ms3 ≤ 7293033) ∧ (kw_L_crashAt (fun r_1 S_1 =>
vp_in ((x4 + ((nI 1)))) L ∧ ((cd + mc2 ≤ 601024 ∧ dd + ms3 ≤ 7293033) ∧ (r_crashAt (fun v_4 f_4 g_4 =>
(cd + mc2 ≤ 601024 ∧ dd + ms3 ≤ 7293033) ∧ (r_thrown (fun r_5 v_5 f_5 g_5 =>
r_5 = r_1 ∧ (lw_tail R x4 (cd + mc2) (dd + ms3) S_1 v_5 f_5 g_5))  v_4 f_4 g_4)) ((xs ((x4 + ((nI 1)))).toNatClampNeg)) v f g))) dp mc2 ms3 x ((xs ((x4 + ((nI 1)))).toNatClampNeg)) S)))
def lw_c17 (R : Int32 → Nat → Nat → cS → (Nat → Int32) → (Nat → Nat → Int32) → (Nat → Nat → Int64) → Prop) (xs : Nat → Int32) (L dp x out : Nat) (x4 : Int32) (cd dd : Nat) (S : cS) (v : Nat → Int32) (f : Nat → Nat → Int32) (g : Nat → Nat → Int64) : Prop :=
(∃ mc2 ms3 : Nat, (cd + mc2 ≤ 601024 ∧ dd + ms3 ≤ 7293033) ∧ (kw_L_open (fun r_1 S_1 =>
(cd + mc2 ≤ 601024 ∧ dd + ms3 ≤ 7293033) ∧ (r_open (fun r_4 v_4 f_4 g_4 =>
(cd + mc2 ≤ 601024 ∧ dd + ms3 ≤ 7293033) ∧ (r_thrown (fun r_5 v_5 f_5 g_5 =>
r_5 = r_1 ∧ (((¬ r_1 = 0 →
  lw_tail R x4 (cd + mc2) (dd + ms3) S_1 v_5 f_5 g_5) ∧
 (r_1 = 0 →
  cX S_1 out 15 ((nI 0)) ∧ ((cJ S_1 out ((nI 0)).toNatClampNeg) = ((r_4).toInt64) ∧ (lw_tail R x4 (cd + mc2) (dd + ms3) S_1 v_5 f_5 g_5))))))  v_4 f_4 g_4))  v f g)) dp mc2 ms3 x out S))
def lw_c18 (R : Int32 → Nat → Nat → cS → (Nat → Int32) → (Nat → Nat → Int32) → (Nat → Nat → Int64) → Prop) (xs : Nat → Int32) (L dp x out : Nat) (x4 : Int32) (cd dd : Nat) (S : cS) (v : Nat → Int32) (f : Nat → Nat → Int32) (g : Nat → Nat → Int64) : Prop :=
cA S x 11 ∧ ((cd ≤ 601024 ∧ dd ≤ 7293033) ∧ (k_X11_isDown (fun r_1 S_1 =>
(cd ≤ 601024 ∧ dd ≤ 7293033) ∧ (r_isDown (fun r_4 v_4 f_4 g_4 =>
r_1 = r_4 ∧ (lw_tail R x4 cd dd S_1 v_4 f_4 g_4))  v f g)) dp x S))
def lw_c19 (R : Int32 → Nat → Nat → cS → (Nat → Int32) → (Nat → Nat → Int32) → (Nat → Nat → Int64) → Prop) (xs : Nat → Int32) (L dp x out : Nat) (x4 : Int32) (cd dd : Nat) (S : cS) (v : Nat → Int32) (f : Nat → Nat → Int32) (g : Nat → Nat → Int64) : Prop :=
(∃ mc2 ms3 : Nat, (cd + mc2 ≤ 601024 ∧ dd + ms3 ≤ 7293033) ∧ (kw_L_files (fun r_1 S_1 =>
(cd + mc2 ≤ 601024 ∧ dd + ms3 ≤ 7293033) ∧ (r_files (fun r_4 v_4 f_4 g_4 =>
(cd + mc2 ≤ 601024 ∧ dd + ms3 ≤ 7293033) ∧ (r_thrown (fun r_5 v_5 f_5 g_5 =>
r_5 = r_1 ∧ (((¬ r_1 = 0 →
  lw_tail R x4 (cd + mc2) (dd + ms3) S_1 v_5 f_5 g_5) ∧
 (r_1 = 0 →
  cX S_1 out 15 ((nI 0)) ∧ ((cJ S_1 out ((nI 0)).toNatClampNeg) = ((r_4).toInt64) ∧ (lw_tail R x4 (cd + mc2) (dd + ms3) S_1 v_5 f_5 g_5))))))  v_4 f_4 g_4))  v f g)) dp mc2 ms3 x out S))
def lw_c20 (R : Int32 → Nat → Nat → cS → (Nat → Int32) → (Nat → Nat → Int32) → (Nat → Nat → Int64) → Prop) (xs : Nat → Int32) (L dp x out : Nat) (x4 : Int32) (cd dd : Nat) (S : cS) (v : Nat → Int32) (f : Nat → Nat → Int32) (g : Nat → Nat → Int64) : Prop :=
cA S x 11 ∧ ((cd ≤ 601024 ∧ dd ≤ 7293033) ∧ (k_X11_writes (fun r_1 S_1 =>
(cd ≤ 601024 ∧ dd ≤ 7293033) ∧ (r_writes (fun r_4 v_4 f_4 g_4 =>
r_1 = r_4 ∧ (lw_tail R x4 cd dd S_1 v_4 f_4 g_4))  v f g)) dp x S))
def lw_c21 (R : Int32 → Nat → Nat → cS → (Nat → Int32) → (Nat → Nat → Int32) → (Nat → Nat → Int64) → Prop) (xs : Nat → Int32) (L dp x out : Nat) (x4 : Int32) (cd dd : Nat) (S : cS) (v : Nat → Int32) (f : Nat → Nat → Int32) (g : Nat → Nat → Int64) : Prop :=
(∃ mc2 ms3 : Nat, (cd + mc2 ≤ 601024 ∧ dd + ms3 ≤ 7293033) ∧ (kw_L_segments (fun r_1 S_1 =>
(cd + mc2 ≤ 601024 ∧ dd + ms3 ≤ 7293033) ∧ (r_segments (fun r_4 v_4 f_4 g_4 =>
(cd + mc2 ≤ 601024 ∧ dd + ms3 ≤ 7293033) ∧ (r_thrown (fun r_5 v_5 f_5 g_5 =>
r_5 = r_1 ∧ (((¬ r_1 = 0 →
  lw_tail R x4 (cd + mc2) (dd + ms3) S_1 v_5 f_5 g_5) ∧
 (r_1 = 0 →
  cX S_1 out 15 ((nI 0)) ∧ ((cJ S_1 out ((nI 0)).toNatClampNeg) = ((r_4).toInt64) ∧ (lw_tail R x4 (cd + mc2) (dd + ms3) S_1 v_5 f_5 g_5))))))  v_4 f_4 g_4))  v f g)) dp mc2 ms3 x out S))
def lw_c22 (R : Int32 → Nat → Nat → cS → (Nat → Int32) → (Nat → Nat → Int32) → (Nat → Nat → Int64) → Prop) (xs : Nat → Int32) (L dp x out : Nat) (x4 : Int32) (cd dd : Nat) (S : cS) (v : Nat → Int32) (f : Nat → Nat → Int32) (g : Nat → Nat → Int64) : Prop :=
vp_in ((x4 + ((nI 1)))) L ∧ ((∃ mc2 ms3 : Nat, (cd + mc2 ≤ 601024 ∧ dd + ms3 ≤ 7293033) ∧ (kw_L_segmentAt (fun r_1 S_1 =>
vp_in ((x4 + ((nI 1)))) L ∧ ((cd + mc2 ≤ 601024 ∧ dd + ms3 ≤ 7293033) ∧ (r_segmentAt (fun r_4 v_4 f_4 g_4 =>
(cd + mc2 ≤ 601024 ∧ dd + ms3 ≤ 7293033) ∧ (r_thrown (fun r_5 v_5 f_5 g_5 =>
r_5 = r_1 ∧ (((¬ r_1 = 0 →
  lw_tail R x4 (cd + mc2) (dd + ms3) S_1 v_5 f_5 g_5) ∧
 (r_1 = 0 →
  cX S_1 out 15 ((nI 0)) ∧ ((cJ S_1 out ((nI 0)).toNatClampNeg) = ((r_4).toInt64) ∧ (lw_tail R x4 (cd + mc2) (dd + ms3) S_1 v_5 f_5 g_5))))))  v_4 f_4 g_4)) ((xs ((x4 + ((nI 1)))).toNatClampNeg)) v f g))) dp mc2 ms3 x ((xs ((x4 + ((nI 1)))).toNatClampNeg)) out S)))
def lw_c23 (R : Int32 → Nat → Nat → cS → (Nat → Int32) → (Nat → Nat → Int32) → (Nat → Nat → Int64) → Prop) (xs : Nat → Int32) (L dp x out : Nat) (x4 : Int32) (cd dd : Nat) (S : cS) (v : Nat → Int32) (f : Nat → Nat → Int32) (g : Nat → Nat → Int64) : Prop :=
vp_in ((x4 + ((nI 1)))) L ∧ ((∃ mc2 ms3 : Nat, (cd + mc2 ≤ 601024 ∧ dd + ms3 ≤ 7293033) ∧ (kw_L_live (fun r_1 S_1 =>
vp_in ((x4 + ((nI 1)))) L ∧ ((cd + mc2 ≤ 601024 ∧ dd + ms3 ≤ 7293033) ∧ (r_live (fun r_4 v_4 f_4 g_4 =>
(cd + mc2 ≤ 601024 ∧ dd + ms3 ≤ 7293033) ∧ (r_thrown (fun r_5 v_5 f_5 g_5 =>
r_5 = r_1 ∧ (((¬ r_1 = 0 →
  lw_tail R x4 (cd + mc2) (dd + ms3) S_1 v_5 f_5 g_5) ∧
 (r_1 = 0 →
  cX S_1 out 15 ((nI 0)) ∧ ((cJ S_1 out ((nI 0)).toNatClampNeg) = ((r_4).toInt64) ∧ (lw_tail R x4 (cd + mc2) (dd + ms3) S_1 v_5 f_5 g_5))))))  v_4 f_4 g_4)) ((xs ((x4 + ((nI 1)))).toNatClampNeg)) v f g))) dp mc2 ms3 x ((xs ((x4 + ((nI 1)))).toNatClampNeg)) out S)))
def lw_c24 (R : Int32 → Nat → Nat → cS → (Nat → Int32) → (Nat → Nat → Int32) → (Nat → Nat → Int64) → Prop) (xs : Nat → Int32) (L dp x out : Nat) (x4 : Int32) (cd dd : Nat) (S : cS) (v : Nat → Int32) (f : Nat → Nat → Int32) (g : Nat → Nat → Int64) : Prop :=
vp_in ((x4 + ((nI 1)))) L ∧ (vp_in ((x4 + ((nI 2)))) L ∧ ((∃ mc2 ms3 : Nat, (cd + mc2 ≤ 601024 ∧ dd + ms3 ≤ 7293033) ∧ (kw_L_keyAt (fun r_1 S_1 =>
vp_in ((x4 + ((nI 1)))) L ∧ (vp_in ((x4 + ((nI 2)))) L ∧ ((cd + mc2 ≤ 601024 ∧ dd + ms3 ≤ 7293033) ∧ (r_keyAt (fun r_4 v_4 f_4 g_4 =>
(cd + mc2 ≤ 601024 ∧ dd + ms3 ≤ 7293033) ∧ (r_thrown (fun r_5 v_5 f_5 g_5 =>
r_5 = r_1 ∧ (((¬ r_1 = 0 →
  lw_tail R x4 (cd + mc2) (dd + ms3) S_1 v_5 f_5 g_5) ∧
 (r_1 = 0 →
  cX S_1 out 15 ((nI 0)) ∧ ((cJ S_1 out ((nI 0)).toNatClampNeg) = ((r_4).toInt64) ∧ (lw_tail R x4 (cd + mc2) (dd + ms3) S_1 v_5 f_5 g_5))))))  v_4 f_4 g_4)) ((xs ((x4 + ((nI 1)))).toNatClampNeg)) ((xs ((x4 + ((nI 2)))).toNatClampNeg)) v f g)))) dp mc2 ms3 x ((xs ((x4 + ((nI 1)))).toNatClampNeg)) ((xs ((x4 + ((nI 2)))).toNatClampNeg)) out S))))
def lw_c25 (R : Int32 → Nat → Nat → cS → (Nat → Int32) → (Nat → Nat → Int32) → (Nat → Nat → Int64) → Prop) (xs : Nat → Int32) (L dp x out : Nat) (x4 : Int32) (cd dd : Nat) (S : cS) (v : Nat → Int32) (f : Nat → Nat → Int32) (g : Nat → Nat → Int64) : Prop :=
vp_in ((x4 + ((nI 1)))) L ∧ (vp_in ((x4 + ((nI 2)))) L ∧ ((∃ mc2 ms3 : Nat, (cd + mc2 ≤ 601024 ∧ dd + ms3 ≤ 7293033) ∧ (kw_L_words (fun r_1 S_1 =>
vp_in ((x4 + ((nI 1)))) L ∧ (vp_in ((x4 + ((nI 2)))) L ∧ ((cd + mc2 ≤ 601024 ∧ dd + ms3 ≤ 7293033) ∧ (r_words (fun r_4 v_4 f_4 g_4 =>
(cd + mc2 ≤ 601024 ∧ dd + ms3 ≤ 7293033) ∧ (r_thrown (fun r_5 v_5 f_5 g_5 =>
r_5 = r_1 ∧ (((¬ r_1 = 0 →
  lw_tail R x4 (cd + mc2) (dd + ms3) S_1 v_5 f_5 g_5) ∧
 (r_1 = 0 →
  cX S_1 out 15 ((nI 0)) ∧ ((cJ S_1 out ((nI 0)).toNatClampNeg) = ((r_4).toInt64) ∧ (lw_tail R x4 (cd + mc2) (dd + ms3) S_1 v_5 f_5 g_5))))))  v_4 f_4 g_4)) ((xs ((x4 + ((nI 1)))).toNatClampNeg)) ((xs ((x4 + ((nI 2)))).toNatClampNeg)) v f g)))) dp mc2 ms3 x ((xs ((x4 + ((nI 1)))).toNatClampNeg)) ((xs ((x4 + ((nI 2)))).toNatClampNeg)) out S))))
def lw_c26 (R : Int32 → Nat → Nat → cS → (Nat → Int32) → (Nat → Nat → Int32) → (Nat → Nat → Int64) → Prop) (xs : Nat → Int32) (L dp x out : Nat) (x4 : Int32) (cd dd : Nat) (S : cS) (v : Nat → Int32) (f : Nat → Nat → Int32) (g : Nat → Nat → Int64) : Prop :=
vp_in ((x4 + ((nI 1)))) L ∧ (vp_in ((x4 + ((nI 2)))) L ∧ (vp_in ((x4 + ((nI 3)))) L ∧ ((∃ mc2 ms3 : Nat, (cd + mc2 ≤ 601024 ∧ dd + ms3 ≤ 7293033) ∧ (kw_L_shared (fun r_1 S_1 =>
vp_in ((x4 + ((nI 1)))) L ∧ (vp_in ((x4 + ((nI 2)))) L ∧ (vp_in ((x4 + ((nI 3)))) L ∧ ((cd + mc2 ≤ 601024 ∧ dd + ms3 ≤ 7293033) ∧ (r_shared (fun r_4 v_4 f_4 g_4 =>
(cd + mc2 ≤ 601024 ∧ dd + ms3 ≤ 7293033) ∧ (r_thrown (fun r_5 v_5 f_5 g_5 =>
r_5 = r_1 ∧ (((¬ r_1 = 0 →
  lw_tail R x4 (cd + mc2) (dd + ms3) S_1 v_5 f_5 g_5) ∧
 (r_1 = 0 →
  cX S_1 out 15 ((nI 0)) ∧ ((cJ S_1 out ((nI 0)).toNatClampNeg) = ((r_4).toInt64) ∧ (lw_tail R x4 (cd + mc2) (dd + ms3) S_1 v_5 f_5 g_5))))))  v_4 f_4 g_4)) ((xs ((x4 + ((nI 1)))).toNatClampNeg)) ((xs ((x4 + ((nI 2)))).toNatClampNeg)) ((xs ((x4 + ((nI 3)))).toNatClampNeg)) v f g))))) dp mc2 ms3 x ((xs ((x4 + ((nI 1)))).toNatClampNeg)) ((xs ((x4 + ((nI 2)))).toNatClampNeg)) ((xs ((x4 + ((nI 3)))).toNatClampNeg)) out S)))))
def lw_c27 (R : Int32 → Nat → Nat → cS → (Nat → Int32) → (Nat → Nat → Int32) → (Nat → Nat → Int64) → Prop) (xs : Nat → Int32) (L dp x out : Nat) (x4 : Int32) (cd dd : Nat) (S : cS) (v : Nat → Int32) (f : Nat → Nat → Int32) (g : Nat → Nat → Int64) : Prop :=
vp_in ((x4 + ((nI 1)))) L ∧ (vp_in ((x4 + ((nI 2)))) L ∧ ((∃ mc2 ms3 : Nat, (cd + mc2 ≤ 601024 ∧ dd + ms3 ≤ 7293033) ∧ (kw_L_wordBytes (fun r_1 S_1 =>
vp_in ((x4 + ((nI 1)))) L ∧ (vp_in ((x4 + ((nI 2)))) L ∧ ((cd + mc2 ≤ 601024 ∧ dd + ms3 ≤ 7293033) ∧ (r_wordBytes (fun r_4 v_4 f_4 g_4 =>
(cd + mc2 ≤ 601024 ∧ dd + ms3 ≤ 7293033) ∧ (r_thrown (fun r_5 v_5 f_5 g_5 =>
r_5 = r_1 ∧ (((¬ r_1 = 0 →
  lw_tail R x4 (cd + mc2) (dd + ms3) S_1 v_5 f_5 g_5) ∧
 (r_1 = 0 →
  cX S_1 out 15 ((nI 0)) ∧ ((cJ S_1 out ((nI 0)).toNatClampNeg) = ((r_4).toInt64) ∧ (lw_tail R x4 (cd + mc2) (dd + ms3) S_1 v_5 f_5 g_5))))))  v_4 f_4 g_4)) ((xs ((x4 + ((nI 1)))).toNatClampNeg)) ((xs ((x4 + ((nI 2)))).toNatClampNeg)) v f g)))) dp mc2 ms3 x ((xs ((x4 + ((nI 1)))).toNatClampNeg)) ((xs ((x4 + ((nI 2)))).toNatClampNeg)) out S))))
def lw_c28 (R : Int32 → Nat → Nat → cS → (Nat → Int32) → (Nat → Nat → Int32) → (Nat → Nat → Int64) → Prop) (xs : Nat → Int32) (L dp x out : Nat) (x4 : Int32) (cd dd : Nat) (S : cS) (v : Nat → Int32) (f : Nat → Nat → Int32) (g : Nat → Nat → Int64) : Prop :=
vp_in ((x4 + ((nI 1)))) L ∧ (vp_in ((x4 + ((nI 2)))) L ∧ (vp_in ((x4 + ((nI 3)))) L ∧ (vp_in ((x4 + ((nI 4)))) L ∧ ((∃ mc2 ms3 : Nat, (cd + mc2 ≤ 601024 ∧ dd + ms3 ≤ 7293033) ∧ (kw_L_signAt (fun r_1 S_1 =>
vp_in ((x4 + ((nI 1)))) L ∧ (vp_in ((x4 + ((nI 2)))) L ∧ (vp_in ((x4 + ((nI 3)))) L ∧ (vp_in ((x4 + ((nI 4)))) L ∧ ((cd + mc2 ≤ 601024 ∧ dd + ms3 ≤ 7293033) ∧ (r_signAt (fun r_4 v_4 f_4 g_4 =>
(cd + mc2 ≤ 601024 ∧ dd + ms3 ≤ 7293033) ∧ (r_thrown (fun r_5 v_5 f_5 g_5 =>
r_5 = r_1 ∧ (((¬ r_1 = 0 →
  lw_tail R x4 (cd + mc2) (dd + ms3) S_1 v_5 f_5 g_5) ∧
 (r_1 = 0 →
  cX S_1 out 15 ((nI 0)) ∧ ((cJ S_1 out ((nI 0)).toNatClampNeg) = ((r_4).toInt64) ∧ (lw_tail R x4 (cd + mc2) (dd + ms3) S_1 v_5 f_5 g_5))))))  v_4 f_4 g_4)) ((xs ((x4 + ((nI 1)))).toNatClampNeg)) ((xs ((x4 + ((nI 2)))).toNatClampNeg)) ((xs ((x4 + ((nI 3)))).toNatClampNeg)) ((xs ((x4 + ((nI 4)))).toNatClampNeg)) v f g)))))) dp mc2 ms3 x ((xs ((x4 + ((nI 1)))).toNatClampNeg)) ((xs ((x4 + ((nI 2)))).toNatClampNeg)) ((xs ((x4 + ((nI 3)))).toNatClampNeg)) ((xs ((x4 + ((nI 4)))).toNatClampNeg)) out S))))))
def lw_c29 (R : Int32 → Nat → Nat → cS → (Nat → Int32) → (Nat → Nat → Int32) → (Nat → Nat → Int64) → Prop) (xs : Nat → Int32) (L dp x out : Nat) (x4 : Int32) (cd dd : Nat) (S : cS) (v : Nat → Int32) (f : Nat → Nat → Int32) (g : Nat → Nat → Int64) : Prop :=
vp_in ((x4 + ((nI 1)))) L ∧ (vp_in ((x4 + ((nI 2)))) L ∧ (vp_in ((x4 + ((nI 3)))) L ∧ ((∃ mc2 ms3 : Nat, (cd + mc2 ≤ 601024 ∧ dd + ms3 ≤ 7293033) ∧ (kw_L_bytes (fun r_1 S_1 =>
vp_in ((x4 + ((nI 1)))) L ∧ (vp_in ((x4 + ((nI 2)))) L ∧ (vp_in ((x4 + ((nI 3)))) L ∧ ((cd + mc2 ≤ 601024 ∧ dd + ms3 ≤ 7293033) ∧ (r_bytes (fun r_4 v_4 f_4 g_4 =>
(cd + mc2 ≤ 601024 ∧ dd + ms3 ≤ 7293033) ∧ (r_thrown (fun r_5 v_5 f_5 g_5 =>
r_5 = r_1 ∧ (((¬ r_1 = 0 →
  lw_tail R x4 (cd + mc2) (dd + ms3) S_1 v_5 f_5 g_5) ∧
 (r_1 = 0 →
  cX S_1 out 15 ((nI 0)) ∧ ((cJ S_1 out ((nI 0)).toNatClampNeg) = ((r_4).toInt64) ∧ (lw_tail R x4 (cd + mc2) (dd + ms3) S_1 v_5 f_5 g_5))))))  v_4 f_4 g_4)) ((xs ((x4 + ((nI 1)))).toNatClampNeg)) ((xs ((x4 + ((nI 2)))).toNatClampNeg)) ((xs ((x4 + ((nI 3)))).toNatClampNeg)) v f g))))) dp mc2 ms3 x ((xs ((x4 + ((nI 1)))).toNatClampNeg)) ((xs ((x4 + ((nI 2)))).toNatClampNeg)) ((xs ((x4 + ((nI 3)))).toNatClampNeg)) out S)))))
def lw_c30 (R : Int32 → Nat → Nat → cS → (Nat → Int32) → (Nat → Nat → Int32) → (Nat → Nat → Int64) → Prop) (xs : Nat → Int32) (L dp x out : Nat) (x4 : Int32) (cd dd : Nat) (S : cS) (v : Nat → Int32) (f : Nat → Nat → Int32) (g : Nat → Nat → Int64) : Prop :=
vp_in ((x4 + ((nI 1)))) L ∧ (vp_in ((x4 + ((nI 2)))) L ∧ (vp_in ((x4 + ((nI 3)))) L ∧ (vp_in ((x4 + ((nI 4)))) L ∧ ((∃ mc2 ms3 : Nat, (cd + mc2 ≤ 601024 ∧ dd + ms3 ≤ 7293033) ∧ (kw_L_byteAt (fun r_1 S_1 =>
vp_in ((x4 + ((nI 1)))) L ∧ (vp_in ((x4 + ((nI 2)))) L ∧ (vp_in ((x4 + ((nI 3)))) L ∧ (vp_in ((x4 + ((nI 4)))) L ∧ ((cd + mc2 ≤ 601024 ∧ dd + ms3 ≤ 7293033) ∧ (r_byteAt (fun r_4 v_4 f_4 g_4 =>
(cd + mc2 ≤ 601024 ∧ dd + ms3 ≤ 7293033) ∧ (r_thrown (fun r_5 v_5 f_5 g_5 =>
r_5 = r_1 ∧ (((¬ r_1 = 0 →
  lw_tail R x4 (cd + mc2) (dd + ms3) S_1 v_5 f_5 g_5) ∧
 (r_1 = 0 →
  cX S_1 out 15 ((nI 0)) ∧ ((cJ S_1 out ((nI 0)).toNatClampNeg) = ((r_4).toInt64) ∧ (lw_tail R x4 (cd + mc2) (dd + ms3) S_1 v_5 f_5 g_5))))))  v_4 f_4 g_4)) ((xs ((x4 + ((nI 1)))).toNatClampNeg)) ((xs ((x4 + ((nI 2)))).toNatClampNeg)) ((xs ((x4 + ((nI 3)))).toNatClampNeg)) ((xs ((x4 + ((nI 4)))).toNatClampNeg)) v f g)))))) dp mc2 ms3 x ((xs ((x4 + ((nI 1)))).toNatClampNeg)) ((xs ((x4 + ((nI 2)))).toNatClampNeg)) ((xs ((x4 + ((nI 3)))).toNatClampNeg)) ((xs ((x4 + ((nI 4)))).toNatClampNeg)) out S))))))
def lw_c31 (R : Int32 → Nat → Nat → cS → (Nat → Int32) → (Nat → Nat → Int32) → (Nat → Nat → Int64) → Prop) (xs : Nat → Int32) (L dp x out : Nat) (x4 : Int32) (cd dd : Nat) (S : cS) (v : Nat → Int32) (f : Nat → Nat → Int32) (g : Nat → Nat → Int64) : Prop :=
vp_in ((x4 + ((nI 1)))) L ∧ (((((xs ((x4 + ((nI 1)))).toNatClampNeg)) = 0 →
  (∃ mc2 ms3 : Nat, (cd + mc2 ≤ 601024 ∧ dd + ms3 ≤ 7293033) ∧ (kw_L_look (fun r_1 S_1 =>
  vp_in ((x4 + ((nI 1)))) L ∧ (((((xs ((x4 + ((nI 1)))).toNatClampNeg)) = 0 →
    (cd + mc2 ≤ 601024 ∧ dd + ms3 ≤ 7293033) ∧ (r_look (fun r_4 v_4 f_4 g_4 =>
    (cd + mc2 ≤ 601024 ∧ dd + ms3 ≤ 7293033) ∧ (r_thrown (fun r_5 v_5 f_5 g_5 =>
    r_5 = r_1 ∧ (((¬ r_1 = 0 →
      lw_tail R x4 (cd + mc2) (dd + ms3) S_1 v_5 f_5 g_5) ∧
     (r_1 = 0 →
      cX S_1 out 15 ((nI 0)) ∧ ((cJ S_1 out ((nI 0)).toNatClampNeg) = ((r_4).toInt64) ∧ (lw_tail R x4 (cd + mc2) (dd + ms3) S_1 v_5 f_5 g_5))))))  v_4 f_4 g_4)) ((nI 0)) v f g)) ∧
   (¬ ((xs ((x4 + ((nI 1)))).toNatClampNeg)) = 0 →
    (cd + mc2 ≤ 601024 ∧ dd + ms3 ≤ 7293033) ∧ (r_look (fun r_6 v_6 f_6 g_6 =>
    (cd + mc2 ≤ 601024 ∧ dd + ms3 ≤ 7293033) ∧ (r_thrown (fun r_7 v_7 f_7 g_7 =>
    r_7 = r_1 ∧ (((¬ r_1 = 0 →
      lw_tail R x4 (cd + mc2) (dd + ms3) S_1 v_7 f_7 g_7) ∧
     (r_1 = 0 →
      cX S_1 out 15 ((nI 0)) ∧ ((cJ S_1 out ((nI 0)).toNatClampNeg) = ((r_6).toInt64) ∧ (lw_tail R x4 (cd + mc2) (dd + ms3) S_1 v_7 f_7 g_7))))))  v_6 f_6 g_6)) ((nI 1)) v f g))))) dp mc2 ms3 x ((nI 0)) out S))) ∧
 (¬ ((xs ((x4 + ((nI 1)))).toNatClampNeg)) = 0 →
  (∃ mc9 ms10 : Nat, (cd + mc9 ≤ 601024 ∧ dd + ms10 ≤ 7293033) ∧ (kw_L_look (fun r_8 S_8 =>
  vp_in ((x4 + ((nI 1)))) L ∧ (((((xs ((x4 + ((nI 1)))).toNatClampNeg)) = 0 →
    (cd + mc9 ≤ 601024 ∧ dd + ms10 ≤ 7293033) ∧ (r_look (fun r_11 v_11 f_11 g_11 =>
    (cd + mc9 ≤ 601024 ∧ dd + ms10 ≤ 7293033) ∧ (r_thrown (fun r_12 v_12 f_12 g_12 =>
    r_12 = r_8 ∧ (((¬ r_8 = 0 →
      lw_tail R x4 (cd + mc9) (dd + ms10) S_8 v_12 f_12 g_12) ∧
     (r_8 = 0 →
      cX S_8 out 15 ((nI 0)) ∧ ((cJ S_8 out ((nI 0)).toNatClampNeg) = ((r_11).toInt64) ∧ (lw_tail R x4 (cd + mc9) (dd + ms10) S_8 v_12 f_12 g_12))))))  v_11 f_11 g_11)) ((nI 0)) v f g)) ∧
   (¬ ((xs ((x4 + ((nI 1)))).toNatClampNeg)) = 0 →
    (cd + mc9 ≤ 601024 ∧ dd + ms10 ≤ 7293033) ∧ (r_look (fun r_13 v_13 f_13 g_13 =>
    (cd + mc9 ≤ 601024 ∧ dd + ms10 ≤ 7293033) ∧ (r_thrown (fun r_14 v_14 f_14 g_14 =>
    r_14 = r_8 ∧ (((¬ r_8 = 0 →
      lw_tail R x4 (cd + mc9) (dd + ms10) S_8 v_14 f_14 g_14) ∧
     (r_8 = 0 →
      cX S_8 out 15 ((nI 0)) ∧ ((cJ S_8 out ((nI 0)).toNatClampNeg) = ((r_13).toInt64) ∧ (lw_tail R x4 (cd + mc9) (dd + ms10) S_8 v_14 f_14 g_14))))))  v_13 f_13 g_13)) ((nI 1)) v f g))))) dp mc9 ms10 x ((nI 1)) out S)))))
def lw_c32 (R : Int32 → Nat → Nat → cS → (Nat → Int32) → (Nat → Nat → Int32) → (Nat → Nat → Int64) → Prop) (xs : Nat → Int32) (L dp x out : Nat) (x4 : Int32) (cd dd : Nat) (S : cS) (v : Nat → Int32) (f : Nat → Nat → Int32) (g : Nat → Nat → Int64) : Prop :=
vp_in ((x4 + ((nI 1)))) L ∧ ((∃ mc2 ms3 : Nat, (cd + mc2 ≤ 601024 ∧ dd + ms3 ≤ 7293033) ∧ (kw_L_shut (fun r_1 S_1 =>
vp_in ((x4 + ((nI 1)))) L ∧ ((cd + mc2 ≤ 601024 ∧ dd + ms3 ≤ 7293033) ∧ (r_shut (fun r_4 v_4 f_4 g_4 =>
(cd + mc2 ≤ 601024 ∧ dd + ms3 ≤ 7293033) ∧ (r_thrown (fun r_5 v_5 f_5 g_5 =>
r_5 = r_1 ∧ (((¬ r_1 = 0 →
  lw_tail R x4 (cd + mc2) (dd + ms3) S_1 v_5 f_5 g_5) ∧
 (r_1 = 0 →
  cX S_1 out 15 ((nI 0)) ∧ ((cJ S_1 out ((nI 0)).toNatClampNeg) = ((r_4).toInt64) ∧ (lw_tail R x4 (cd + mc2) (dd + ms3) S_1 v_5 f_5 g_5))))))  v_4 f_4 g_4)) ((xs ((x4 + ((nI 1)))).toNatClampNeg)) v f g))) dp mc2 ms3 x ((xs ((x4 + ((nI 1)))).toNatClampNeg)) out S)))
def lw_c33 (R : Int32 → Nat → Nat → cS → (Nat → Int32) → (Nat → Nat → Int32) → (Nat → Nat → Int64) → Prop) (xs : Nat → Int32) (L dp x out : Nat) (x4 : Int32) (cd dd : Nat) (S : cS) (v : Nat → Int32) (f : Nat → Nat → Int32) (g : Nat → Nat → Int64) : Prop :=
vp_in ((x4 + ((nI 1)))) L ∧ ((∃ mc2 ms3 : Nat, (cd + mc2 ≤ 601024 ∧ dd + ms3 ≤ 7293033) ∧ (kw_L_documents (fun r_1 S_1 =>
vp_in ((x4 + ((nI 1)))) L ∧ ((cd + mc2 ≤ 601024 ∧ dd + ms3 ≤ 7293033) ∧ (r_documents (fun r_4 v_4 f_4 g_4 =>
(cd + mc2 ≤ 601024 ∧ dd + ms3 ≤ 7293033) ∧ (r_thrown (fun r_5 v_5 f_5 g_5 =>
r_5 = r_1 ∧ (((¬ r_1 = 0 →
  lw_tail R x4 (cd + mc2) (dd + ms3) S_1 v_5 f_5 g_5) ∧
 (r_1 = 0 →
  cX S_1 out 15 ((nI 0)) ∧ ((cJ S_1 out ((nI 0)).toNatClampNeg) = ((r_4).toInt64) ∧ (lw_tail R x4 (cd + mc2) (dd + ms3) S_1 v_5 f_5 g_5))))))  v_4 f_4 g_4)) ((xs ((x4 + ((nI 1)))).toNatClampNeg)) v f g))) dp mc2 ms3 x ((xs ((x4 + ((nI 1)))).toNatClampNeg)) out S)))
def lw_c34 (R : Int32 → Nat → Nat → cS → (Nat → Int32) → (Nat → Nat → Int32) → (Nat → Nat → Int64) → Prop) (xs : Nat → Int32) (L dp x out : Nat) (x4 : Int32) (cd dd : Nat) (S : cS) (v : Nat → Int32) (f : Nat → Nat → Int32) (g : Nat → Nat → Int64) : Prop :=
vp_in ((x4 + ((nI 1)))) L ∧ ((∃ mc2 ms3 : Nat, (cd + mc2 ≤ 601024 ∧ dd + ms3 ≤ 7293033) ∧ (kw_L_term (fun r_1 S_1 =>
vp_in ((x4 + ((nI 1)))) L ∧ ((cd + mc2 ≤ 601024 ∧ dd + ms3 ≤ 7293033) ∧ (r_term (fun r_4 v_4 f_4 g_4 =>
(cd + mc2 ≤ 601024 ∧ dd + ms3 ≤ 7293033) ∧ (r_thrown (fun r_5 v_5 f_5 g_5 =>
r_5 = r_1 ∧ (((¬ r_1 = 0 →
  lw_tail R x4 (cd + mc2) (dd + ms3) S_1 v_5 f_5 g_5) ∧
 (r_1 = 0 →
  cX S_1 out 15 ((nI 0)) ∧ ((cJ S_1 out ((nI 0)).toNatClampNeg) = ((r_4).toInt64) ∧ (lw_tail R x4 (cd + mc2) (dd + ms3) S_1 v_5 f_5 g_5))))))  v_4 f_4 g_4)) ((xs ((x4 + ((nI 1)))).toNatClampNeg)) v f g))) dp mc2 ms3 x ((xs ((x4 + ((nI 1)))).toNatClampNeg)) out S)))
def lw_c35 (R : Int32 → Nat → Nat → cS → (Nat → Int32) → (Nat → Nat → Int32) → (Nat → Nat → Int64) → Prop) (xs : Nat → Int32) (L dp x out : Nat) (x4 : Int32) (cd dd : Nat) (S : cS) (v : Nat → Int32) (f : Nat → Nat → Int32) (g : Nat → Nat → Int64) : Prop :=
vp_in ((x4 + ((nI 1)))) L ∧ (vp_in ((x4 + ((nI 2)))) L ∧ ((∃ mc2 ms3 : Nat, (cd + mc2 ≤ 601024 ∧ dd + ms3 ≤ 7293033) ∧ (kw_L_phrase (fun r_1 S_1 =>
vp_in ((x4 + ((nI 1)))) L ∧ (vp_in ((x4 + ((nI 2)))) L ∧ ((cd + mc2 ≤ 601024 ∧ dd + ms3 ≤ 7293033) ∧ (r_phrase (fun r_4 v_4 f_4 g_4 =>
(cd + mc2 ≤ 601024 ∧ dd + ms3 ≤ 7293033) ∧ (r_thrown (fun r_5 v_5 f_5 g_5 =>
r_5 = r_1 ∧ (((¬ r_1 = 0 →
  lw_tail R x4 (cd + mc2) (dd + ms3) S_1 v_5 f_5 g_5) ∧
 (r_1 = 0 →
  cX S_1 out 15 ((nI 0)) ∧ ((cJ S_1 out ((nI 0)).toNatClampNeg) = ((r_4).toInt64) ∧ (lw_tail R x4 (cd + mc2) (dd + ms3) S_1 v_5 f_5 g_5))))))  v_4 f_4 g_4)) ((xs ((x4 + ((nI 1)))).toNatClampNeg)) ((xs ((x4 + ((nI 2)))).toNatClampNeg)) v f g)))) dp mc2 ms3 x ((xs ((x4 + ((nI 1)))).toNatClampNeg)) ((xs ((x4 + ((nI 2)))).toNatClampNeg)) out S))))
def lw_c36 (R : Int32 → Nat → Nat → cS → (Nat → Int32) → (Nat → Nat → Int32) → (Nat → Nat → Int64) → Prop) (xs : Nat → Int32) (L dp x out : Nat) (x4 : Int32) (cd dd : Nat) (S : cS) (v : Nat → Int32) (f : Nat → Nat → Int32) (g : Nat → Nat → Int64) : Prop :=
vp_in ((x4 + ((nI 1)))) L ∧ (vp_in ((x4 + ((nI 2)))) L ∧ (vp_in ((x4 + ((nI 3)))) L ∧ (((((xs ((x4 + ((nI 3)))).toNatClampNeg)) = 0 →
  (∃ mc2 ms3 : Nat, (cd + mc2 ≤ 601024 ∧ dd + ms3 ≤ 7293033) ∧ (kw_L_near (fun r_1 S_1 =>
  vp_in ((x4 + ((nI 1)))) L ∧ (vp_in ((x4 + ((nI 2)))) L ∧ (vp_in ((x4 + ((nI 3)))) L ∧ (((((xs ((x4 + ((nI 3)))).toNatClampNeg)) = 0 →
    (cd + mc2 ≤ 601024 ∧ dd + ms3 ≤ 7293033) ∧ (r_near (fun r_4 v_4 f_4 g_4 =>
    (cd + mc2 ≤ 601024 ∧ dd + ms3 ≤ 7293033) ∧ (r_thrown (fun r_5 v_5 f_5 g_5 =>
    r_5 = r_1 ∧ (((¬ r_1 = 0 →
      lw_tail R x4 (cd + mc2) (dd + ms3) S_1 v_5 f_5 g_5) ∧
     (r_1 = 0 →
      cX S_1 out 15 ((nI 0)) ∧ ((cJ S_1 out ((nI 0)).toNatClampNeg) = ((r_4).toInt64) ∧ (lw_tail R x4 (cd + mc2) (dd + ms3) S_1 v_5 f_5 g_5))))))  v_4 f_4 g_4)) ((xs ((x4 + ((nI 1)))).toNatClampNeg)) ((xs ((x4 + ((nI 2)))).toNatClampNeg)) ((nI 0)) v f g)) ∧
   (¬ ((xs ((x4 + ((nI 3)))).toNatClampNeg)) = 0 →
    (cd + mc2 ≤ 601024 ∧ dd + ms3 ≤ 7293033) ∧ (r_near (fun r_6 v_6 f_6 g_6 =>
    (cd + mc2 ≤ 601024 ∧ dd + ms3 ≤ 7293033) ∧ (r_thrown (fun r_7 v_7 f_7 g_7 =>
    r_7 = r_1 ∧ (((¬ r_1 = 0 →
      lw_tail R x4 (cd + mc2) (dd + ms3) S_1 v_7 f_7 g_7) ∧
     (r_1 = 0 →
      cX S_1 out 15 ((nI 0)) ∧ ((cJ S_1 out ((nI 0)).toNatClampNeg) = ((r_6).toInt64) ∧ (lw_tail R x4 (cd + mc2) (dd + ms3) S_1 v_7 f_7 g_7))))))  v_6 f_6 g_6)) ((xs ((x4 + ((nI 1)))).toNatClampNeg)) ((xs ((x4 + ((nI 2)))).toNatClampNeg)) ((nI 1)) v f g))))))) dp mc2 ms3 x ((xs ((x4 + ((nI 1)))).toNatClampNeg)) ((xs ((x4 + ((nI 2)))).toNatClampNeg)) ((nI 0)) out S))) ∧
 (¬ ((xs ((x4 + ((nI 3)))).toNatClampNeg)) = 0 →
  (∃ mc9 ms10 : Nat, (cd + mc9 ≤ 601024 ∧ dd + ms10 ≤ 7293033) ∧ (kw_L_near (fun r_8 S_8 =>
  vp_in ((x4 + ((nI 1)))) L ∧ (vp_in ((x4 + ((nI 2)))) L ∧ (vp_in ((x4 + ((nI 3)))) L ∧ (((((xs ((x4 + ((nI 3)))).toNatClampNeg)) = 0 →
    (cd + mc9 ≤ 601024 ∧ dd + ms10 ≤ 7293033) ∧ (r_near (fun r_11 v_11 f_11 g_11 =>
    (cd + mc9 ≤ 601024 ∧ dd + ms10 ≤ 7293033) ∧ (r_thrown (fun r_12 v_12 f_12 g_12 =>
    r_12 = r_8 ∧ (((¬ r_8 = 0 →
      lw_tail R x4 (cd + mc9) (dd + ms10) S_8 v_12 f_12 g_12) ∧
     (r_8 = 0 →
      cX S_8 out 15 ((nI 0)) ∧ ((cJ S_8 out ((nI 0)).toNatClampNeg) = ((r_11).toInt64) ∧ (lw_tail R x4 (cd + mc9) (dd + ms10) S_8 v_12 f_12 g_12))))))  v_11 f_11 g_11)) ((xs ((x4 + ((nI 1)))).toNatClampNeg)) ((xs ((x4 + ((nI 2)))).toNatClampNeg)) ((nI 0)) v f g)) ∧
   (¬ ((xs ((x4 + ((nI 3)))).toNatClampNeg)) = 0 →
    (cd + mc9 ≤ 601024 ∧ dd + ms10 ≤ 7293033) ∧ (r_near (fun r_13 v_13 f_13 g_13 =>
    (cd + mc9 ≤ 601024 ∧ dd + ms10 ≤ 7293033) ∧ (r_thrown (fun r_14 v_14 f_14 g_14 =>
    r_14 = r_8 ∧ (((¬ r_8 = 0 →
      lw_tail R x4 (cd + mc9) (dd + ms10) S_8 v_14 f_14 g_14) ∧
     (r_8 = 0 →
      cX S_8 out 15 ((nI 0)) ∧ ((cJ S_8 out ((nI 0)).toNatClampNeg) = ((r_13).toInt64) ∧ (lw_tail R x4 (cd + mc9) (dd + ms10) S_8 v_14 f_14 g_14))))))  v_13 f_13 g_13)) ((xs ((x4 + ((nI 1)))).toNatClampNeg)) ((xs ((x4 + ((nI 2)))).toNatClampNeg)) ((nI 1)) v f g))))))) dp mc9 ms10 x ((xs ((x4 + ((nI 1)))).toNatClampNeg)) ((xs ((x4 + ((nI 2)))).toNatClampNeg)) ((nI 1)) out S)))))))
def lw_c37 (R : Int32 → Nat → Nat → cS → (Nat → Int32) → (Nat → Nat → Int32) → (Nat → Nat → Int64) → Prop) (xs : Nat → Int32) (L dp x out : Nat) (x4 : Int32) (cd dd : Nat) (S : cS) (v : Nat → Int32) (f : Nat → Nat → Int32) (g : Nat → Nat → Int64) : Prop :=
vp_in ((x4 + ((nI 1)))) L ∧ ((∃ mc2 ms3 : Nat, (cd + mc2 ≤ 601024 ∧ dd + ms3 ≤ 7293033) ∧ (kw_L_prefix (fun r_1 S_1 =>
vp_in ((x4 + ((nI 1)))) L ∧ ((cd + mc2 ≤ 601024 ∧ dd + ms3 ≤ 7293033) ∧ (r_prefix (fun r_4 v_4 f_4 g_4 =>
(cd + mc2 ≤ 601024 ∧ dd + ms3 ≤ 7293033) ∧ (r_thrown (fun r_5 v_5 f_5 g_5 =>
r_5 = r_1 ∧ (((¬ r_1 = 0 →
  lw_tail R x4 (cd + mc2) (dd + ms3) S_1 v_5 f_5 g_5) ∧
 (r_1 = 0 →
  cX S_1 out 15 ((nI 0)) ∧ ((cJ S_1 out ((nI 0)).toNatClampNeg) = ((r_4).toInt64) ∧ (lw_tail R x4 (cd + mc2) (dd + ms3) S_1 v_5 f_5 g_5))))))  v_4 f_4 g_4)) ((xs ((x4 + ((nI 1)))).toNatClampNeg)) v f g))) dp mc2 ms3 x ((xs ((x4 + ((nI 1)))).toNatClampNeg)) out S)))
def lw_c38 (R : Int32 → Nat → Nat → cS → (Nat → Int32) → (Nat → Nat → Int32) → (Nat → Nat → Int64) → Prop) (xs : Nat → Int32) (L dp x out : Nat) (x4 : Int32) (cd dd : Nat) (S : cS) (v : Nat → Int32) (f : Nat → Nat → Int32) (g : Nat → Nat → Int64) : Prop :=
vp_in ((x4 + ((nI 1)))) L ∧ ((∃ mc2 ms3 : Nat, (cd + mc2 ≤ 601024 ∧ dd + ms3 ≤ 7293033) ∧ (kw_L_wild (fun r_1 S_1 =>
vp_in ((x4 + ((nI 1)))) L ∧ ((cd + mc2 ≤ 601024 ∧ dd + ms3 ≤ 7293033) ∧ (r_wild (fun r_4 v_4 f_4 g_4 =>
(cd + mc2 ≤ 601024 ∧ dd + ms3 ≤ 7293033) ∧ (r_thrown (fun r_5 v_5 f_5 g_5 =>
r_5 = r_1 ∧ (((¬ r_1 = 0 →
  lw_tail R x4 (cd + mc2) (dd + ms3) S_1 v_5 f_5 g_5) ∧
 (r_1 = 0 →
  cX S_1 out 15 ((nI 0)) ∧ ((cJ S_1 out ((nI 0)).toNatClampNeg) = ((r_4).toInt64) ∧ (lw_tail R x4 (cd + mc2) (dd + ms3) S_1 v_5 f_5 g_5))))))  v_4 f_4 g_4)) ((xs ((x4 + ((nI 1)))).toNatClampNeg)) v f g))) dp mc2 ms3 x ((xs ((x4 + ((nI 1)))).toNatClampNeg)) out S)))
def lw_c39 (R : Int32 → Nat → Nat → cS → (Nat → Int32) → (Nat → Nat → Int32) → (Nat → Nat → Int64) → Prop) (xs : Nat → Int32) (L dp x out : Nat) (x4 : Int32) (cd dd : Nat) (S : cS) (v : Nat → Int32) (f : Nat → Nat → Int32) (g : Nat → Nat → Int64) : Prop :=
vp_in ((x4 + ((nI 1)))) L ∧ (vp_in ((x4 + ((nI 2)))) L ∧ ((∃ mc2 ms3 : Nat, (cd + mc2 ≤ 601024 ∧ dd + ms3 ≤ 7293033) ∧ (kw_L_fuzzy (fun r_1 S_1 =>
vp_in ((x4 + ((nI 1)))) L ∧ (vp_in ((x4 + ((nI 2)))) L ∧ ((cd + mc2 ≤ 601024 ∧ dd + ms3 ≤ 7293033) ∧ (r_fuzzy (fun r_4 v_4 f_4 g_4 =>
(cd + mc2 ≤ 601024 ∧ dd + ms3 ≤ 7293033) ∧ (r_thrown (fun r_5 v_5 f_5 g_5 =>
r_5 = r_1 ∧ (((¬ r_1 = 0 →
  lw_tail R x4 (cd + mc2) (dd + ms3) S_1 v_5 f_5 g_5) ∧
 (r_1 = 0 →
  cX S_1 out 15 ((nI 0)) ∧ ((cJ S_1 out ((nI 0)).toNatClampNeg) = ((r_4).toInt64) ∧ (lw_tail R x4 (cd + mc2) (dd + ms3) S_1 v_5 f_5 g_5))))))  v_4 f_4 g_4)) ((xs ((x4 + ((nI 1)))).toNatClampNeg)) ((xs ((x4 + ((nI 2)))).toNatClampNeg)) v f g)))) dp mc2 ms3 x ((xs ((x4 + ((nI 1)))).toNatClampNeg)) ((xs ((x4 + ((nI 2)))).toNatClampNeg)) out S))))
def lw_c40 (R : Int32 → Nat → Nat → cS → (Nat → Int32) → (Nat → Nat → Int32) → (Nat → Nat → Int64) → Prop) (xs : Nat → Int32) (L dp x out : Nat) (x4 : Int32) (cd dd : Nat) (S : cS) (v : Nat → Int32) (f : Nat → Nat → Int32) (g : Nat → Nat → Int64) : Prop :=
vp_in ((x4 + ((nI 1)))) L ∧ (vp_in ((x4 + ((nI 2)))) L ∧ ((∃ mc2 ms3 : Nat, (cd + mc2 ≤ 601024 ∧ dd + ms3 ≤ 7293033) ∧ (kw_L_least (fun r_1 S_1 =>
vp_in ((x4 + ((nI 1)))) L ∧ (vp_in ((x4 + ((nI 2)))) L ∧ ((cd + mc2 ≤ 601024 ∧ dd + ms3 ≤ 7293033) ∧ (r_least (fun r_4 v_4 f_4 g_4 =>
(cd + mc2 ≤ 601024 ∧ dd + ms3 ≤ 7293033) ∧ (r_thrown (fun r_5 v_5 f_5 g_5 =>
r_5 = r_1 ∧ (((¬ r_1 = 0 →
  lw_tail R x4 (cd + mc2) (dd + ms3) S_1 v_5 f_5 g_5) ∧
 (r_1 = 0 →
  cX S_1 out 15 ((nI 0)) ∧ ((cJ S_1 out ((nI 0)).toNatClampNeg) = ((r_4).toInt64) ∧ (lw_tail R x4 (cd + mc2) (dd + ms3) S_1 v_5 f_5 g_5))))))  v_4 f_4 g_4)) ((xs ((x4 + ((nI 1)))).toNatClampNeg)) ((xs ((x4 + ((nI 2)))).toNatClampNeg)) v f g)))) dp mc2 ms3 x ((xs ((x4 + ((nI 1)))).toNatClampNeg)) ((xs ((x4 + ((nI 2)))).toNatClampNeg)) out S))))
def lw_c41 (R : Int32 → Nat → Nat → cS → (Nat → Int32) → (Nat → Nat → Int32) → (Nat → Nat → Int64) → Prop) (xs : Nat → Int32) (L dp x out : Nat) (x4 : Int32) (cd dd : Nat) (S : cS) (v : Nat → Int32) (f : Nat → Nat → Int32) (g : Nat → Nat → Int64) : Prop :=
(∃ mc2 ms3 : Nat, (cd + mc2 ≤ 601024 ∧ dd + ms3 ≤ 7293033) ∧ (kw_L_but (fun r_1 S_1 =>
(cd + mc2 ≤ 601024 ∧ dd + ms3 ≤ 7293033) ∧ (r_but (fun r_4 v_4 f_4 g_4 =>
(cd + mc2 ≤ 601024 ∧ dd + ms3 ≤ 7293033) ∧ (r_thrown (fun r_5 v_5 f_5 g_5 =>
r_5 = r_1 ∧ (((¬ r_1 = 0 →
  lw_tail R x4 (cd + mc2) (dd + ms3) S_1 v_5 f_5 g_5) ∧
 (r_1 = 0 →
  cX S_1 out 15 ((nI 0)) ∧ ((cJ S_1 out ((nI 0)).toNatClampNeg) = ((r_4).toInt64) ∧ (lw_tail R x4 (cd + mc2) (dd + ms3) S_1 v_5 f_5 g_5))))))  v_4 f_4 g_4))  v f g)) dp mc2 ms3 x out S))
def lw_c42 (R : Int32 → Nat → Nat → cS → (Nat → Int32) → (Nat → Nat → Int32) → (Nat → Nat → Int64) → Prop) (xs : Nat → Int32) (L dp x out : Nat) (x4 : Int32) (cd dd : Nat) (S : cS) (v : Nat → Int32) (f : Nat → Nat → Int32) (g : Nat → Nat → Int64) : Prop :=
(∃ mc2 ms3 : Nat, (cd + mc2 ≤ 601024 ∧ dd + ms3 ≤ 7293033) ∧ (kw_L_query (fun r_1 S_1 =>
(cd + mc2 ≤ 601024 ∧ dd + ms3 ≤ 7293033) ∧ (r_query (fun r_4 v_4 f_4 g_4 =>
(cd + mc2 ≤ 601024 ∧ dd + ms3 ≤ 7293033) ∧ (r_thrown (fun r_5 v_5 f_5 g_5 =>
r_5 = r_1 ∧ (((¬ r_1 = 0 →
  lw_tail R x4 (cd + mc2) (dd + ms3) S_1 v_5 f_5 g_5) ∧
 (r_1 = 0 →
  cX S_1 out 15 ((nI 0)) ∧ ((cJ S_1 out ((nI 0)).toNatClampNeg) = ((r_4).toInt64) ∧ (lw_tail R x4 (cd + mc2) (dd + ms3) S_1 v_5 f_5 g_5))))))  v_4 f_4 g_4))  v f g)) dp mc2 ms3 x out S))
def lw_c43 (R : Int32 → Nat → Nat → cS → (Nat → Int32) → (Nat → Nat → Int32) → (Nat → Nat → Int64) → Prop) (xs : Nat → Int32) (L dp x out : Nat) (x4 : Int32) (cd dd : Nat) (S : cS) (v : Nat → Int32) (f : Nat → Nat → Int32) (g : Nat → Nat → Int64) : Prop :=
cA S x 11 ∧ ((∃ mc2 ms3 : Nat, (cd + mc2 ≤ 601024 ∧ dd + ms3 ≤ 7293033) ∧ (k_X11_scrap (fun r_1 S_1 =>
(cd + mc2 ≤ 601024 ∧ dd + ms3 ≤ 7293033) ∧ (r_scrap (fun r_4 v_4 f_4 g_4 =>
r_1 = r_4 ∧ (lw_tail R x4 (cd + mc2) (dd + ms3) S_1 v_4 f_4 g_4))  v f g)) dp mc2 ms3 x S)))
def lw_c44 (R : Int32 → Nat → Nat → cS → (Nat → Int32) → (Nat → Nat → Int32) → (Nat → Nat → Int64) → Prop) (xs : Nat → Int32) (L dp x out : Nat) (x4 : Int32) (cd dd : Nat) (S : cS) (v : Nat → Int32) (f : Nat → Nat → Int32) (g : Nat → Nat → Int64) : Prop :=
vp_in ((x4 + ((nI 1)))) L ∧ (vp_in ((x4 + ((nI 2)))) L ∧ ((∃ mc2 ms3 : Nat, (cd + mc2 ≤ 601024 ∧ dd + ms3 ≤ 7293033) ∧ (kw_L_weigh (fun r_1 S_1 =>
vp_in ((x4 + ((nI 1)))) L ∧ (vp_in ((x4 + ((nI 2)))) L ∧ ((cd + mc2 ≤ 601024 ∧ dd + ms3 ≤ 7293033) ∧ (r_weigh (fun r_4 v_4 f_4 g_4 =>
(cd + mc2 ≤ 601024 ∧ dd + ms3 ≤ 7293033) ∧ (r_thrown (fun r_5 v_5 f_5 g_5 =>
r_5 = r_1 ∧ (((¬ r_1 = 0 →
  lw_tail R x4 (cd + mc2) (dd + ms3) S_1 v_5 f_5 g_5) ∧
 (r_1 = 0 →
  cX S_1 out 15 ((nI 0)) ∧ ((cJ S_1 out ((nI 0)).toNatClampNeg) = ((r_4).toInt64) ∧ (lw_tail R x4 (cd + mc2) (dd + ms3) S_1 v_5 f_5 g_5))))))  v_4 f_4 g_4)) ((xs ((x4 + ((nI 1)))).toNatClampNeg)) ((xs ((x4 + ((nI 2)))).toNatClampNeg)) v f g)))) dp mc2 ms3 x ((xs ((x4 + ((nI 1)))).toNatClampNeg)) ((xs ((x4 + ((nI 2)))).toNatClampNeg)) out S))))
def lw_c45 (R : Int32 → Nat → Nat → cS → (Nat → Int32) → (Nat → Nat → Int32) → (Nat → Nat → Int64) → Prop) (xs : Nat → Int32) (L dp x out : Nat) (x4 : Int32) (cd dd : Nat) (S : cS) (v : Nat → Int32) (f : Nat → Nat → Int32) (g : Nat → Nat → Int64) : Prop :=
vp_in ((x4 + ((nI 1)))) L ∧ (vp_in ((x4 + ((nI 2)))) L ∧ (vp_in ((x4 + ((nI 3)))) L ∧ ((∃ mc2 ms3 : Nat, (cd + mc2 ≤ 601024 ∧ dd + ms3 ≤ 7293033) ∧ (kw_L_find (fun r_1 S_1 =>
vp_in ((x4 + ((nI 1)))) L ∧ (vp_in ((x4 + ((nI 2)))) L ∧ (vp_in ((x4 + ((nI 3)))) L ∧ ((cd + mc2 ≤ 601024 ∧ dd + ms3 ≤ 7293033) ∧ (r_find (fun r_4 v_4 f_4 g_4 =>
(cd + mc2 ≤ 601024 ∧ dd + ms3 ≤ 7293033) ∧ (r_thrown (fun r_5 v_5 f_5 g_5 =>
r_5 = r_1 ∧ (((¬ r_1 = 0 →
  lw_tail R x4 (cd + mc2) (dd + ms3) S_1 v_5 f_5 g_5) ∧
 (r_1 = 0 →
  cX S_1 out 15 ((nI 0)) ∧ ((cJ S_1 out ((nI 0)).toNatClampNeg) = ((r_4).toInt64) ∧ (lw_tail R x4 (cd + mc2) (dd + ms3) S_1 v_5 f_5 g_5))))))  v_4 f_4 g_4)) ((xs ((x4 + ((nI 1)))).toNatClampNeg)) ((xs ((x4 + ((nI 2)))).toNatClampNeg)) ((xs ((x4 + ((nI 3)))).toNatClampNeg)) v f g))))) dp mc2 ms3 x ((xs ((x4 + ((nI 1)))).toNatClampNeg)) ((xs ((x4 + ((nI 2)))).toNatClampNeg)) ((xs ((x4 + ((nI 3)))).toNatClampNeg)) out S)))))
def lw_c46 (R : Int32 → Nat → Nat → cS → (Nat → Int32) → (Nat → Nat → Int32) → (Nat → Nat → Int64) → Prop) (xs : Nat → Int32) (L dp x out : Nat) (x4 : Int32) (cd dd : Nat) (S : cS) (v : Nat → Int32) (f : Nat → Nat → Int32) (g : Nat → Nat → Int64) : Prop :=
vp_in ((x4 + ((nI 1)))) L ∧ ((∃ mc2 ms3 : Nat, (cd + mc2 ≤ 601024 ∧ dd + ms3 ≤ 7293033) ∧ (kw_L_hitAt (fun r_1 S_1 =>
vp_in ((x4 + ((nI 1)))) L ∧ ((cd + mc2 ≤ 601024 ∧ dd + ms3 ≤ 7293033) ∧ (r_hitAt (fun r_4 v_4 f_4 g_4 =>
(cd + mc2 ≤ 601024 ∧ dd + ms3 ≤ 7293033) ∧ (r_thrown (fun r_5 v_5 f_5 g_5 =>
r_5 = r_1 ∧ (((¬ r_1 = 0 →
  lw_tail R x4 (cd + mc2) (dd + ms3) S_1 v_5 f_5 g_5) ∧
 (r_1 = 0 →
  cX S_1 out 15 ((nI 0)) ∧ ((cJ S_1 out ((nI 0)).toNatClampNeg) = ((r_4).toInt64) ∧ (lw_tail R x4 (cd + mc2) (dd + ms3) S_1 v_5 f_5 g_5))))))  v_4 f_4 g_4)) ((xs ((x4 + ((nI 1)))).toNatClampNeg)) v f g))) dp mc2 ms3 x ((xs ((x4 + ((nI 1)))).toNatClampNeg)) out S)))
def lw_c47 (R : Int32 → Nat → Nat → cS → (Nat → Int32) → (Nat → Nat → Int32) → (Nat → Nat → Int64) → Prop) (xs : Nat → Int32) (L dp x out : Nat) (x4 : Int32) (cd dd : Nat) (S : cS) (v : Nat → Int32) (f : Nat → Nat → Int32) (g : Nat → Nat → Int64) : Prop :=
vp_in ((x4 + ((nI 1)))) L ∧ ((∃ mc2 ms3 : Nat, (cd + mc2 ≤ 601024 ∧ dd + ms3 ≤ 7293033) ∧ (kw_L_rankAt (fun r_1 S_1 =>
vp_in ((x4 + ((nI 1)))) L ∧ ((cd + mc2 ≤ 601024 ∧ dd + ms3 ≤ 7293033) ∧ (r_rankAt (fun r_4 v_4 f_4 g_4 =>
(cd + mc2 ≤ 601024 ∧ dd + ms3 ≤ 7293033) ∧ (r_thrown (fun r_5 v_5 f_5 g_5 =>
r_5 = r_1 ∧ (((¬ r_1 = 0 →
  lw_tail R x4 (cd + mc2) (dd + ms3) S_1 v_5 f_5 g_5) ∧
 (r_1 = 0 →
  cX S_1 out 15 ((nI 0)) ∧ ((cJ S_1 out ((nI 0)).toNatClampNeg) = ((r_4).toInt64) ∧ (lw_tail R x4 (cd + mc2) (dd + ms3) S_1 v_5 f_5 g_5))))))  v_4 f_4 g_4)) ((xs ((x4 + ((nI 1)))).toNatClampNeg)) v f g))) dp mc2 ms3 x ((xs ((x4 + ((nI 1)))).toNatClampNeg)) out S)))
def lw_c48 (R : Int32 → Nat → Nat → cS → (Nat → Int32) → (Nat → Nat → Int32) → (Nat → Nat → Int64) → Prop) (xs : Nat → Int32) (L dp x out : Nat) (x4 : Int32) (cd dd : Nat) (S : cS) (v : Nat → Int32) (f : Nat → Nat → Int32) (g : Nat → Nat → Int64) : Prop :=
cA S x 11 ∧ ((cd ≤ 601024 ∧ dd ≤ 7293033) ∧ (k_X11_skipped (fun r_1 S_1 =>
(cd ≤ 601024 ∧ dd ≤ 7293033) ∧ (r_skipped (fun r_4 v_4 f_4 g_4 =>
r_1 = r_4 ∧ (lw_tail R x4 cd dd S_1 v_4 f_4 g_4))  v f g)) dp x S))
def lw_c49 (R : Int32 → Nat → Nat → cS → (Nat → Int32) → (Nat → Nat → Int32) → (Nat → Nat → Int64) → Prop) (xs : Nat → Int32) (L dp x out : Nat) (x4 : Int32) (cd dd : Nat) (S : cS) (v : Nat → Int32) (f : Nat → Nat → Int32) (g : Nat → Nat → Int64) : Prop :=
cA S x 11 ∧ ((cd ≤ 601024 ∧ dd ≤ 7293033) ∧ (k_X11_cached (fun r_1 S_1 =>
(cd ≤ 601024 ∧ dd ≤ 7293033) ∧ (r_cached (fun r_4 v_4 f_4 g_4 =>
r_1 = r_4 ∧ (lw_tail R x4 cd dd S_1 v_4 f_4 g_4))  v f g)) dp x S))
def lw_c50 (R : Int32 → Nat → Nat → cS → (Nat → Int32) → (Nat → Nat → Int32) → (Nat → Nat → Int64) → Prop) (xs : Nat → Int32) (L dp x out : Nat) (x4 : Int32) (cd dd : Nat) (S : cS) (v : Nat → Int32) (f : Nat → Nat → Int32) (g : Nat → Nat → Int64) : Prop :=
vp_in ((x4 + ((nI 1)))) L ∧ (vp_in ((x4 + ((nI 2)))) L ∧ (vp_in ((x4 + ((nI 3)))) L ∧ ((∃ mc2 ms3 : Nat, (cd + mc2 ≤ 601024 ∧ dd + ms3 ≤ 7293033) ∧ (kw_L_rankByScan (fun r_1 S_1 =>
vp_in ((x4 + ((nI 1)))) L ∧ (vp_in ((x4 + ((nI 2)))) L ∧ (vp_in ((x4 + ((nI 3)))) L ∧ ((cd + mc2 ≤ 601024 ∧ dd + ms3 ≤ 7293033) ∧ (r_rankByScan (fun r_4 v_4 f_4 g_4 =>
(cd + mc2 ≤ 601024 ∧ dd + ms3 ≤ 7293033) ∧ (r_thrown (fun r_5 v_5 f_5 g_5 =>
r_5 = r_1 ∧ (((¬ r_1 = 0 →
  lw_tail R x4 (cd + mc2) (dd + ms3) S_1 v_5 f_5 g_5) ∧
 (r_1 = 0 →
  cX S_1 out 15 ((nI 0)) ∧ ((cJ S_1 out ((nI 0)).toNatClampNeg) = ((r_4).toInt64) ∧ (lw_tail R x4 (cd + mc2) (dd + ms3) S_1 v_5 f_5 g_5))))))  v_4 f_4 g_4)) ((xs ((x4 + ((nI 1)))).toNatClampNeg)) ((xs ((x4 + ((nI 2)))).toNatClampNeg)) ((xs ((x4 + ((nI 3)))).toNatClampNeg)) v f g))))) dp mc2 ms3 x ((xs ((x4 + ((nI 1)))).toNatClampNeg)) ((xs ((x4 + ((nI 2)))).toNatClampNeg)) ((xs ((x4 + ((nI 3)))).toNatClampNeg)) out S)))))
def lw_c51 (R : Int32 → Nat → Nat → cS → (Nat → Int32) → (Nat → Nat → Int32) → (Nat → Nat → Int64) → Prop) (xs : Nat → Int32) (L dp x out : Nat) (x4 : Int32) (cd dd : Nat) (S : cS) (v : Nat → Int32) (f : Nat → Nat → Int32) (g : Nat → Nat → Int64) : Prop :=
vp_in ((x4 + ((nI 1)))) L ∧ (vp_in ((x4 + ((nI 2)))) L ∧ ((∃ mc2 ms3 : Nat, (cd + mc2 ≤ 601024 ∧ dd + ms3 ≤ 7293033) ∧ (kw_L_matches (fun r_1 S_1 =>
vp_in ((x4 + ((nI 1)))) L ∧ (vp_in ((x4 + ((nI 2)))) L ∧ ((cd + mc2 ≤ 601024 ∧ dd + ms3 ≤ 7293033) ∧ (r_matches (fun r_4 v_4 f_4 g_4 =>
(cd + mc2 ≤ 601024 ∧ dd + ms3 ≤ 7293033) ∧ (r_thrown (fun r_5 v_5 f_5 g_5 =>
r_5 = r_1 ∧ (((¬ r_1 = 0 →
  lw_tail R x4 (cd + mc2) (dd + ms3) S_1 v_5 f_5 g_5) ∧
 (r_1 = 0 →
  cX S_1 out 15 ((nI 0)) ∧ ((cJ S_1 out ((nI 0)).toNatClampNeg) = ((r_4).toInt64) ∧ (lw_tail R x4 (cd + mc2) (dd + ms3) S_1 v_5 f_5 g_5))))))  v_4 f_4 g_4)) ((xs ((x4 + ((nI 1)))).toNatClampNeg)) ((xs ((x4 + ((nI 2)))).toNatClampNeg)) v f g)))) dp mc2 ms3 x ((xs ((x4 + ((nI 1)))).toNatClampNeg)) ((xs ((x4 + ((nI 2)))).toNatClampNeg)) out S))))
def lw_c52 (R : Int32 → Nat → Nat → cS → (Nat → Int32) → (Nat → Nat → Int32) → (Nat → Nat → Int64) → Prop) (xs : Nat → Int32) (L dp x out : Nat) (x4 : Int32) (cd dd : Nat) (S : cS) (v : Nat → Int32) (f : Nat → Nat → Int32) (g : Nat → Nat → Int64) : Prop :=
vp_in ((x4 + ((nI 1)))) L ∧ (vp_in ((x4 + ((nI 2)))) L ∧ ((∃ mc2 ms3 : Nat, (cd + mc2 ≤ 601024 ∧ dd + ms3 ≤ 7293033) ∧ (kw_L_matchesByScan (fun r_1 S_1 =>
vp_in ((x4 + ((nI 1)))) L ∧ (vp_in ((x4 + ((nI 2)))) L ∧ ((cd + mc2 ≤ 601024 ∧ dd + ms3 ≤ 7293033) ∧ (r_matchesByScan (fun r_4 v_4 f_4 g_4 =>
(cd + mc2 ≤ 601024 ∧ dd + ms3 ≤ 7293033) ∧ (r_thrown (fun r_5 v_5 f_5 g_5 =>
r_5 = r_1 ∧ (((¬ r_1 = 0 →
  lw_tail R x4 (cd + mc2) (dd + ms3) S_1 v_5 f_5 g_5) ∧
 (r_1 = 0 →
  cX S_1 out 15 ((nI 0)) ∧ ((cJ S_1 out ((nI 0)).toNatClampNeg) = ((r_4).toInt64) ∧ (lw_tail R x4 (cd + mc2) (dd + ms3) S_1 v_5 f_5 g_5))))))  v_4 f_4 g_4)) ((xs ((x4 + ((nI 1)))).toNatClampNeg)) ((xs ((x4 + ((nI 2)))).toNatClampNeg)) v f g)))) dp mc2 ms3 x ((xs ((x4 + ((nI 1)))).toNatClampNeg)) ((xs ((x4 + ((nI 2)))).toNatClampNeg)) out S))))
def lw_c53 (R : Int32 → Nat → Nat → cS → (Nat → Int32) → (Nat → Nat → Int32) → (Nat → Nat → Int64) → Prop) (xs : Nat → Int32) (L dp x out : Nat) (x4 : Int32) (cd dd : Nat) (S : cS) (v : Nat → Int32) (f : Nat → Nat → Int32) (g : Nat → Nat → Int64) : Prop :=
vp_in ((x4 + ((nI 1)))) L ∧ (vp_in ((x4 + ((nI 2)))) L ∧ (vp_in ((x4 + ((nI 3)))) L ∧ ((∃ mc2 ms3 : Nat, (cd + mc2 ≤ 601024 ∧ dd + ms3 ≤ 7293033) ∧ (kw_L_facet (fun r_1 S_1 =>
vp_in ((x4 + ((nI 1)))) L ∧ (vp_in ((x4 + ((nI 2)))) L ∧ (vp_in ((x4 + ((nI 3)))) L ∧ ((cd + mc2 ≤ 601024 ∧ dd + ms3 ≤ 7293033) ∧ (r_facet (fun r_4 v_4 f_4 g_4 =>
(cd + mc2 ≤ 601024 ∧ dd + ms3 ≤ 7293033) ∧ (r_thrown (fun r_5 v_5 f_5 g_5 =>
r_5 = r_1 ∧ (((¬ r_1 = 0 →
  lw_tail R x4 (cd + mc2) (dd + ms3) S_1 v_5 f_5 g_5) ∧
 (r_1 = 0 →
  cX S_1 out 15 ((nI 0)) ∧ ((cJ S_1 out ((nI 0)).toNatClampNeg) = ((r_4).toInt64) ∧ (lw_tail R x4 (cd + mc2) (dd + ms3) S_1 v_5 f_5 g_5))))))  v_4 f_4 g_4)) ((xs ((x4 + ((nI 1)))).toNatClampNeg)) ((xs ((x4 + ((nI 2)))).toNatClampNeg)) ((xs ((x4 + ((nI 3)))).toNatClampNeg)) v f g))))) dp mc2 ms3 x ((xs ((x4 + ((nI 1)))).toNatClampNeg)) ((xs ((x4 + ((nI 2)))).toNatClampNeg)) ((xs ((x4 + ((nI 3)))).toNatClampNeg)) out S)))))
def lw_c54 (R : Int32 → Nat → Nat → cS → (Nat → Int32) → (Nat → Nat → Int32) → (Nat → Nat → Int64) → Prop) (xs : Nat → Int32) (L dp x out : Nat) (x4 : Int32) (cd dd : Nat) (S : cS) (v : Nat → Int32) (f : Nat → Nat → Int32) (g : Nat → Nat → Int64) : Prop :=
vp_in ((x4 + ((nI 1)))) L ∧ (vp_in ((x4 + ((nI 2)))) L ∧ (vp_in ((x4 + ((nI 3)))) L ∧ (((((xs ((x4 + ((nI 3)))).toNatClampNeg)) = 0 →
  vp_in ((x4 + ((nI 4)))) L ∧ ((∃ mc2 ms3 : Nat, (cd + mc2 ≤ 601024 ∧ dd + ms3 ≤ 7293033) ∧ (kw_L_sortedAt (fun r_1 S_1 =>
  vp_in ((x4 + ((nI 1)))) L ∧ (vp_in ((x4 + ((nI 2)))) L ∧ (vp_in ((x4 + ((nI 3)))) L ∧ (((((xs ((x4 + ((nI 3)))).toNatClampNeg)) = 0 →
    vp_in ((x4 + ((nI 4)))) L ∧ ((cd + mc2 ≤ 601024 ∧ dd + ms3 ≤ 7293033) ∧ (r_sortedAt (fun r_4 v_4 f_4 g_4 =>
    (cd + mc2 ≤ 601024 ∧ dd + ms3 ≤ 7293033) ∧ (r_thrown (fun r_5 v_5 f_5 g_5 =>
    r_5 = r_1 ∧ (((¬ r_1 = 0 →
      lw_tail R x4 (cd + mc2) (dd + ms3) S_1 v_5 f_5 g_5) ∧
     (r_1 = 0 →
      cX S_1 out 15 ((nI 0)) ∧ ((cJ S_1 out ((nI 0)).toNatClampNeg) = ((r_4).toInt64) ∧ (lw_tail R x4 (cd + mc2) (dd + ms3) S_1 v_5 f_5 g_5))))))  v_4 f_4 g_4)) ((xs ((x4 + ((nI 1)))).toNatClampNeg)) ((xs ((x4 + ((nI 2)))).toNatClampNeg)) ((nI 0)) ((xs ((x4 + ((nI 4)))).toNatClampNeg)) v f g))) ∧
   (¬ ((xs ((x4 + ((nI 3)))).toNatClampNeg)) = 0 →
    vp_in ((x4 + ((nI 4)))) L ∧ ((cd + mc2 ≤ 601024 ∧ dd + ms3 ≤ 7293033) ∧ (r_sortedAt (fun r_6 v_6 f_6 g_6 =>
    (cd + mc2 ≤ 601024 ∧ dd + ms3 ≤ 7293033) ∧ (r_thrown (fun r_7 v_7 f_7 g_7 =>
    r_7 = r_1 ∧ (((¬ r_1 = 0 →
      lw_tail R x4 (cd + mc2) (dd + ms3) S_1 v_7 f_7 g_7) ∧
     (r_1 = 0 →
      cX S_1 out 15 ((nI 0)) ∧ ((cJ S_1 out ((nI 0)).toNatClampNeg) = ((r_6).toInt64) ∧ (lw_tail R x4 (cd + mc2) (dd + ms3) S_1 v_7 f_7 g_7))))))  v_6 f_6 g_6)) ((xs ((x4 + ((nI 1)))).toNatClampNeg)) ((xs ((x4 + ((nI 2)))).toNatClampNeg)) ((nI 1)) ((xs ((x4 + ((nI 4)))).toNatClampNeg)) v f g)))))))) dp mc2 ms3 x ((xs ((x4 + ((nI 1)))).toNatClampNeg)) ((xs ((x4 + ((nI 2)))).toNatClampNeg)) ((nI 0)) ((xs ((x4 + ((nI 4)))).toNatClampNeg)) out S)))) ∧
 (¬ ((xs ((x4 + ((nI 3)))).toNatClampNeg)) = 0 →
  vp_in ((x4 + ((nI 4)))) L ∧ ((∃ mc9 ms10 : Nat, (cd + mc9 ≤ 601024 ∧ dd + ms10 ≤ 7293033) ∧ (kw_L_sortedAt (fun r_8 S_8 =>
  vp_in ((x4 + ((nI 1)))) L ∧ (vp_in ((x4 + ((nI 2)))) L ∧ (vp_in ((x4 + ((nI 3)))) L ∧ (((((xs ((x4 + ((nI 3)))).toNatClampNeg)) = 0 →
    vp_in ((x4 + ((nI 4)))) L ∧ ((cd + mc9 ≤ 601024 ∧ dd + ms10 ≤ 7293033) ∧ (r_sortedAt (fun r_11 v_11 f_11 g_11 =>
    (cd + mc9 ≤ 601024 ∧ dd + ms10 ≤ 7293033) ∧ (r_thrown (fun r_12 v_12 f_12 g_12 =>
    r_12 = r_8 ∧ (((¬ r_8 = 0 →
      lw_tail R x4 (cd + mc9) (dd + ms10) S_8 v_12 f_12 g_12) ∧
     (r_8 = 0 →
      cX S_8 out 15 ((nI 0)) ∧ ((cJ S_8 out ((nI 0)).toNatClampNeg) = ((r_11).toInt64) ∧ (lw_tail R x4 (cd + mc9) (dd + ms10) S_8 v_12 f_12 g_12))))))  v_11 f_11 g_11)) ((xs ((x4 + ((nI 1)))).toNatClampNeg)) ((xs ((x4 + ((nI 2)))).toNatClampNeg)) ((nI 0)) ((xs ((x4 + ((nI 4)))).toNatClampNeg)) v f g))) ∧
   (¬ ((xs ((x4 + ((nI 3)))).toNatClampNeg)) = 0 →
    vp_in ((x4 + ((nI 4)))) L ∧ ((cd + mc9 ≤ 601024 ∧ dd + ms10 ≤ 7293033) ∧ (r_sortedAt (fun r_13 v_13 f_13 g_13 =>
    (cd + mc9 ≤ 601024 ∧ dd + ms10 ≤ 7293033) ∧ (r_thrown (fun r_14 v_14 f_14 g_14 =>
    r_14 = r_8 ∧ (((¬ r_8 = 0 →
      lw_tail R x4 (cd + mc9) (dd + ms10) S_8 v_14 f_14 g_14) ∧
     (r_8 = 0 →
      cX S_8 out 15 ((nI 0)) ∧ ((cJ S_8 out ((nI 0)).toNatClampNeg) = ((r_13).toInt64) ∧ (lw_tail R x4 (cd + mc9) (dd + ms10) S_8 v_14 f_14 g_14))))))  v_13 f_13 g_13)) ((xs ((x4 + ((nI 1)))).toNatClampNeg)) ((xs ((x4 + ((nI 2)))).toNatClampNeg)) ((nI 1)) ((xs ((x4 + ((nI 4)))).toNatClampNeg)) v f g)))))))) dp mc9 ms10 x ((xs ((x4 + ((nI 1)))).toNatClampNeg)) ((xs ((x4 + ((nI 2)))).toNatClampNeg)) ((nI 1)) ((xs ((x4 + ((nI 4)))).toNatClampNeg)) out S))))))))
def lw_c55 (R : Int32 → Nat → Nat → cS → (Nat → Int32) → (Nat → Nat → Int32) → (Nat → Nat → Int64) → Prop) (xs : Nat → Int32) (L dp x out : Nat) (x4 : Int32) (cd dd : Nat) (S : cS) (v : Nat → Int32) (f : Nat → Nat → Int32) (g : Nat → Nat → Int64) : Prop :=
vp_in ((x4 + ((nI 1)))) L ∧ (vp_in ((x4 + ((nI 2)))) L ∧ (vp_in ((x4 + ((nI 3)))) L ∧ (vp_in ((x4 + ((nI 4)))) L ∧ ((∃ mc2 ms3 : Nat, (cd + mc2 ≤ 601024 ∧ dd + ms3 ≤ 7293033) ∧ (kw_L_passages (fun r_1 S_1 =>
vp_in ((x4 + ((nI 1)))) L ∧ (vp_in ((x4 + ((nI 2)))) L ∧ (vp_in ((x4 + ((nI 3)))) L ∧ (vp_in ((x4 + ((nI 4)))) L ∧ ((cd + mc2 ≤ 601024 ∧ dd + ms3 ≤ 7293033) ∧ (r_passages (fun r_4 v_4 f_4 g_4 =>
(cd + mc2 ≤ 601024 ∧ dd + ms3 ≤ 7293033) ∧ (r_thrown (fun r_5 v_5 f_5 g_5 =>
r_5 = r_1 ∧ (((¬ r_1 = 0 →
  lw_tail R x4 (cd + mc2) (dd + ms3) S_1 v_5 f_5 g_5) ∧
 (r_1 = 0 →
  cX S_1 out 15 ((nI 0)) ∧ ((cJ S_1 out ((nI 0)).toNatClampNeg) = ((r_4).toInt64) ∧ (lw_tail R x4 (cd + mc2) (dd + ms3) S_1 v_5 f_5 g_5))))))  v_4 f_4 g_4)) ((xs ((x4 + ((nI 1)))).toNatClampNeg)) ((xs ((x4 + ((nI 2)))).toNatClampNeg)) ((xs ((x4 + ((nI 3)))).toNatClampNeg)) ((xs ((x4 + ((nI 4)))).toNatClampNeg)) v f g)))))) dp mc2 ms3 x ((xs ((x4 + ((nI 1)))).toNatClampNeg)) ((xs ((x4 + ((nI 2)))).toNatClampNeg)) ((xs ((x4 + ((nI 3)))).toNatClampNeg)) ((xs ((x4 + ((nI 4)))).toNatClampNeg)) out S))))))
def lw_c56 (R : Int32 → Nat → Nat → cS → (Nat → Int32) → (Nat → Nat → Int32) → (Nat → Nat → Int64) → Prop) (xs : Nat → Int32) (L dp x out : Nat) (x4 : Int32) (cd dd : Nat) (S : cS) (v : Nat → Int32) (f : Nat → Nat → Int32) (g : Nat → Nat → Int64) : Prop :=
vp_in ((x4 + ((nI 1)))) L ∧ (vp_in ((x4 + ((nI 2)))) L ∧ (vp_in ((x4 + ((nI 3)))) L ∧ (vp_in ((x4 + ((nI 4)))) L ∧ (vp_in ((x4 + ((nI 5)))) L ∧ ((∃ mc2 ms3 : Nat, (cd + mc2 ≤ 601024 ∧ dd + ms3 ≤ 7293033) ∧ (kw_L_passageAt (fun r_1 S_1 =>
vp_in ((x4 + ((nI 1)))) L ∧ (vp_in ((x4 + ((nI 2)))) L ∧ (vp_in ((x4 + ((nI 3)))) L ∧ (vp_in ((x4 + ((nI 4)))) L ∧ (vp_in ((x4 + ((nI 5)))) L ∧ ((cd + mc2 ≤ 601024 ∧ dd + ms3 ≤ 7293033) ∧ (r_passageAt (fun r_4 v_4 f_4 g_4 =>
(cd + mc2 ≤ 601024 ∧ dd + ms3 ≤ 7293033) ∧ (r_thrown (fun r_5 v_5 f_5 g_5 =>
r_5 = r_1 ∧ (((¬ r_1 = 0 →
  lw_tail R x4 (cd + mc2) (dd + ms3) S_1 v_5 f_5 g_5) ∧
 (r_1 = 0 →
  cX S_1 out 15 ((nI 0)) ∧ ((cJ S_1 out ((nI 0)).toNatClampNeg) = ((r_4).toInt64) ∧ (lw_tail R x4 (cd + mc2) (dd + ms3) S_1 v_5 f_5 g_5))))))  v_4 f_4 g_4)) ((xs ((x4 + ((nI 1)))).toNatClampNeg)) ((xs ((x4 + ((nI 2)))).toNatClampNeg)) ((xs ((x4 + ((nI 3)))).toNatClampNeg)) ((xs ((x4 + ((nI 4)))).toNatClampNeg)) ((xs ((x4 + ((nI 5)))).toNatClampNeg)) v f g))))))) dp mc2 ms3 x ((xs ((x4 + ((nI 1)))).toNatClampNeg)) ((xs ((x4 + ((nI 2)))).toNatClampNeg)) ((xs ((x4 + ((nI 3)))).toNatClampNeg)) ((xs ((x4 + ((nI 4)))).toNatClampNeg)) ((xs ((x4 + ((nI 5)))).toNatClampNeg)) out S)))))))
def lw_23 (R : Int32 → Nat → Nat → cS → (Nat → Int32) → (Nat → Nat → Int32) → (Nat → Nat → Int64) → Prop) (xs : Nat → Int32) (L dp x out : Nat) (x4 : Int32) (cd dd : Nat) (S : cS) (v : Nat → Int32) (f : Nat → Nat → Int32) (g : Nat → Nat → Int64) : Prop :=
(nI L - nI 6 < x4 → cd ≤ 601024 ∧ dd ≤ 7293033) ∧
(¬ nI L - nI 6 < x4 → (vp_in x4 L ∧ ∀ t : Int32, t = xs x4.toNatClampNeg &&& nI 63 →
 (t = nI 0 → lw_c0 R xs L dp x out x4 cd dd S v f g) ∧
 (t = nI 1 → lw_c1 R xs L dp x out x4 cd dd S v f g) ∧
 (t = nI 2 → lw_c2 R xs L dp x out x4 cd dd S v f g) ∧
 (t = nI 3 → lw_c3 R xs L dp x out x4 cd dd S v f g) ∧
 (t = nI 4 → lw_c4 R xs L dp x out x4 cd dd S v f g) ∧
 (t = nI 5 → lw_c5 R xs L dp x out x4 cd dd S v f g) ∧
 (t = nI 6 → lw_c6 R xs L dp x out x4 cd dd S v f g) ∧
 (t = nI 7 → lw_c7 R xs L dp x out x4 cd dd S v f g) ∧
 (t = nI 8 → lw_c8 R xs L dp x out x4 cd dd S v f g) ∧
 (t = nI 9 → lw_c9 R xs L dp x out x4 cd dd S v f g) ∧
 (t = nI 10 → lw_c10 R xs L dp x out x4 cd dd S v f g) ∧
 (t = nI 11 → lw_c11 R xs L dp x out x4 cd dd S v f g) ∧
 (t = nI 12 → lw_c12 R xs L dp x out x4 cd dd S v f g) ∧
 (t = nI 13 → lw_c13 R xs L dp x out x4 cd dd S v f g) ∧
 (t = nI 14 → lw_c14 R xs L dp x out x4 cd dd S v f g) ∧
 (t = nI 15 → lw_c15 R xs L dp x out x4 cd dd S v f g) ∧
 (t = nI 16 → lw_c16 R xs L dp x out x4 cd dd S v f g) ∧
 (t = nI 17 → lw_c17 R xs L dp x out x4 cd dd S v f g) ∧
 (t = nI 18 → lw_c18 R xs L dp x out x4 cd dd S v f g) ∧
 (t = nI 19 → lw_c19 R xs L dp x out x4 cd dd S v f g) ∧
 (t = nI 20 → lw_c20 R xs L dp x out x4 cd dd S v f g) ∧
 (t = nI 21 → lw_c21 R xs L dp x out x4 cd dd S v f g) ∧
 (t = nI 22 → lw_c22 R xs L dp x out x4 cd dd S v f g) ∧
 (t = nI 23 → lw_c23 R xs L dp x out x4 cd dd S v f g) ∧
 (t = nI 24 → lw_c24 R xs L dp x out x4 cd dd S v f g) ∧
 (t = nI 25 → lw_c25 R xs L dp x out x4 cd dd S v f g) ∧
 (t = nI 26 → lw_c26 R xs L dp x out x4 cd dd S v f g) ∧
 (t = nI 27 → lw_c27 R xs L dp x out x4 cd dd S v f g) ∧
 (t = nI 28 → lw_c28 R xs L dp x out x4 cd dd S v f g) ∧
 (t = nI 29 → lw_c29 R xs L dp x out x4 cd dd S v f g) ∧
 (t = nI 30 → lw_c30 R xs L dp x out x4 cd dd S v f g) ∧
 (t = nI 31 → lw_c31 R xs L dp x out x4 cd dd S v f g) ∧
 (t = nI 32 → lw_c32 R xs L dp x out x4 cd dd S v f g) ∧
 (t = nI 33 → lw_c33 R xs L dp x out x4 cd dd S v f g) ∧
 (t = nI 34 → lw_c34 R xs L dp x out x4 cd dd S v f g) ∧
 (t = nI 35 → lw_c35 R xs L dp x out x4 cd dd S v f g) ∧
 (t = nI 36 → lw_c36 R xs L dp x out x4 cd dd S v f g) ∧
 (t = nI 37 → lw_c37 R xs L dp x out x4 cd dd S v f g) ∧
 (t = nI 38 → lw_c38 R xs L dp x out x4 cd dd S v f g) ∧
 (t = nI 39 → lw_c39 R xs L dp x out x4 cd dd S v f g) ∧
 (t = nI 40 → lw_c40 R xs L dp x out x4 cd dd S v f g) ∧
 (t = nI 41 → lw_c41 R xs L dp x out x4 cd dd S v f g) ∧
 (t = nI 42 → lw_c42 R xs L dp x out x4 cd dd S v f g) ∧
 (t = nI 43 → lw_c43 R xs L dp x out x4 cd dd S v f g) ∧
 (t = nI 44 → lw_c44 R xs L dp x out x4 cd dd S v f g) ∧
 (t = nI 45 → lw_c45 R xs L dp x out x4 cd dd S v f g) ∧
 (t = nI 46 → lw_c46 R xs L dp x out x4 cd dd S v f g) ∧
 (t = nI 47 → lw_c47 R xs L dp x out x4 cd dd S v f g) ∧
 (t = nI 48 → lw_c48 R xs L dp x out x4 cd dd S v f g) ∧
 (t = nI 49 → lw_c49 R xs L dp x out x4 cd dd S v f g) ∧
 (t = nI 50 → lw_c50 R xs L dp x out x4 cd dd S v f g) ∧
 (t = nI 51 → lw_c51 R xs L dp x out x4 cd dd S v f g) ∧
 (t = nI 52 → lw_c52 R xs L dp x out x4 cd dd S v f g) ∧
 (t = nI 53 → lw_c53 R xs L dp x out x4 cd dd S v f g) ∧
 (t = nI 54 → lw_c54 R xs L dp x out x4 cd dd S v f g) ∧
 (t = nI 55 → lw_c55 R xs L dp x out x4 cd dd S v f g) ∧
 (t = nI 56 → lw_c56 R xs L dp x out x4 cd dd S v f g) ∧
 (∀ j : Nat, 57 ≤ j → j < 64 → t = nI j → lw_tail R x4 cd dd S v f g)))
def lw_loop (xs : Nat → Int32) (L dp x out : Nat) (x4 : Int32) (cd dd : Nat) (S : cS) (v : Nat → Int32) (f : Nat → Nat → Int32) (g : Nat → Nat → Int64) : Prop :=
  lfp (X := Int32 × Nat × Nat × cS × (Nat → Int32) × (Nat → Nat → Int32) × (Nat → Nat → Int64)) (fun P y => lw_23 (fun x4 cd dd S v f g => P (x4, cd, dd, S, v, f, g)) xs L dp x out y.1 y.2.1 y.2.2.1 y.2.2.2.1 y.2.2.2.2.1 y.2.2.2.2.2.1 y.2.2.2.2.2.2) (x4, cd, dd, S, v, f, g)
