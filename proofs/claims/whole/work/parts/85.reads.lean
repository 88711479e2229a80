/-! the reference: the words of the pad -/
section RD
variable {v : Nat → Int32} {f : Nat → Nat → Int32} {g : Nat → Nat → Int64}
set_option maxHeartbeats 1000000 in
theorem p_reads {Q : QV} {P : Nat → Nat} {n : Nat} (hp : mPow g) (hn : n ≤ 40) (hv : v 2 = nI n) (hP : ∀ j, j < n → f 2 j = nI (P j) ∧ P j < 65536) (h : ∀ r : Nat → Int64, (∀ j, j < wdC P n → r j = lN (wdW P n j)) → Q (upd v 4 (nI (wdC P n))) f (sR g 3 r)) : r_reads Q v f g := by
  unfold r_reads
  rintro _ rfl
  unfold r_reads_9L
  refine lfp_ind (I := fun y => ∃ (k : Nat) (r : Nat → Int64), k ≤ n ∧ (∀ q, q < (rdS P k).2.1 → r q = lN ((rdS P k).2.2 q)) ∧ y = (nI (rdS P k).1, nI k, upd v 4 (nI (rdS P k).2.1), f, sR g 3 r)) (μ := fun y => n - y.2.1.toNatClampNeg) ?_ ⟨0, g 3, Nat.zero_le _, fun q z => absurd z (Nat.not_lt_zero q), by rw [sR_id]; rfl⟩
  rintro R _ ⟨k, r, hk, hr, rfl⟩ ih
  show r_reads_9 Q _ (nI (rdS P k).1) (nI k) (upd v 4 (nI (rdS P k).2.1)) f (sR g 3 r)
  obtain ⟨i1, i2, i3⟩ := rdS_inv P k
  have go : ∀ (t : Int32) (c : Nat) (r' : Nat → Int64), k < n → t = nI (rdS P (k + 1)).1 → c = (rdS P (k + 1)).2.1 → (∀ q, q < c → r' q = lN ((rdS P (k + 1)).2.2 q)) → r_reads_99 Q (fun b0 b1 v f g => R (b0, b1, v, f, g)) (nI k) t (upd v 4 (nI c)) f (sR g 3 r') := by
    intro t c r' hkn ht hc hr'
    unfold r_reads_99
    rintro _ rfl
    rw [nI_add]
    refine ih _ ⟨k + 1, r', by omega, by rw [← hc]; exact hr', by rw [ht, hc]⟩ ?_
    show n - (nI (k + 1)).toNatClampNeg < n - (nI k).toNatClampNeg
    rw [nI_clamp (by omega), nI_clamp (by omega)]
    omega
  unfold r_reads_9
  rw [upd_n (show (2 : Nat) ≠ 4 by decide), hv]
  refine ⟨fun c => ?_, fun c => ?_⟩
  · have c := (nI_leI (by omega) (by omega)).mp c
    obtain rfl : k = n := by omega
    exact h r hr
  · have c : k < n := by have := mt (nI_leI (by omega) (by omega)).mpr c; omega
    refine ⟨pk_in k 40 (by omega), ?_⟩
    rw [nI_clamp (by omega), (hP k c).1]
    refine p_figure (hP k c).2 ?_
    have hfl := figN_lt (P k)
    refine ⟨fun c1 => ?_, fun c1 => ?_⟩
    · have c1 : figN (P k) = 0 := (nI_le0 (by omega)).mp c1
      unfold r_reads_88
      refine ⟨fun _ => ?_, fun q => absurd ((nI_le0 (by omega)).mpr c1) q⟩
      have e := rdS_0 (P := P) (k := k) c1
      exact go (nI 0) _ r c (by rw [e]) (by rw [e]) (by rw [e]; exact hr)
    · have c1 : 0 < figN (P k) := by have := mt (nI_le0 (x := figN (P k)) (by omega)).mpr c1; omega
      have put : ∀ (c1 : Nat) (r1 : Nat → Int64) (x : Nat), 1 ≤ c1 → c1 ≤ 20 → r1 (c1 - 1) = lN x → c1 = (rdS P (k + 1)).2.1 → (rdS P k).1 + 1 = (rdS P (k + 1)).1 → (∀ q, q < c1 → upR r1 (c1 - 1) (lN (x + if (rdS P k).1 < 12 then figN (P k) * 37 ^ (11 - (rdS P k).1) else 0)) q = lN ((rdS P (k + 1)).2.2 q)) → r_reads_55 Q (fun b0 b1 v f g => R (b0, b1, v, f, g)) (nI (rdS P k).1) (nI k) (nI (figN (P k))) (upd v 4 (nI c1)) f (sR g 3 r1) := by
        intro c2 r1 x h1 h20 hx hc2 hs2 hr1
        have last : ∀ t0 : Int64, t0 = lN (if (rdS P k).1 < 12 then figN (P k) * 37 ^ (11 - (rdS P k).1) else 0) → r_reads_86 Q (fun b0 b1 v f g => R (b0, b1, v, f, g)) (nI (rdS P k).1) (nI k) (nI (figN (P k))) t0 (r1 (c2 - 1)) (nI (c2 - 1)) (upd v 4 (nI c2)) f (sR g 3 r1) := by
          intro t0 ht0
          unfold r_reads_86
          refine ⟨pk_in (c2 - 1) 20 (by omega), ?_⟩
          rintro _ rfl
          rw [nI_clamp (by omega), mU_sR, hx, ht0, lN_add]
          unfold r_reads_88
          refine ⟨fun q => absurd ((nI_le0 (by omega)).mp q) (by omega), fun _ => ?_⟩
          rw [nI_add]
          exact go _ c2 _ c (by rw [hs2]) hc2 hr1
        unfold r_reads_55
        rw [upd_e, pk_sub h1, nI_clamp (show c2 - 1 < 2 ^ 31 by omega), sR_s]
        refine ⟨pk_in (c2 - 1) 20 (by omega), fun d => ?_, fun d => ?_⟩
        · have d := (nI_leI (by decide) (by omega)).mp d
          exact last 0 (by rw [if_neg (by omega)]; rfl)
        · have d : (rdS P k).1 < 12 := by have := mt (nI_leI (by decide) (show (rdS P k).1 < 2 ^ 31 by omega)).mpr d; omega
          refine ⟨pk_in _ 12 d, last _ ?_⟩
          rw [if_pos d, nI_clamp (by omega), nI_l (by omega)]
          show lN (figN (P k)) * (sR g 3 r1) 1 _ = _
          rw [sR_n (by decide), hp _ d, lN_mul]
      refine ⟨fun d => ?_, fun d => ?_⟩
      · have d : 0 < (rdS P k).1 := by have := mt (nI_z (x := (rdS P k).1) (by omega)).mpr d; omega
        obtain ⟨j1, j2⟩ := i2 d
        have e := rdS_I (P := P) (k := k) c1 d
        refine put _ r ((rdS P k).2.2 ((rdS P k).2.1 - 1)) j2 (by omega) (hr _ (by omega)) (by rw [e]) (by rw [e]) ?_
        rw [e]
        exact rd_rI hr
      · have d : (rdS P k).1 = 0 := (nI_z (by omega)).mp d
        have j3 := i3 d
        have e := rdS_N (P := P) (k := k) c1 d
        rw [upd_e]
        refine ⟨pk_in (rdS P k).2.1 20 (by omega), ?_⟩
        rintro _ rfl _ rfl
        rw [nI_clamp (by omega), mU_sR, nI_add, upd_s]
        refine put _ (upR r (rdS P k).2.1 0) 0 (by omega) (by omega) (by rw [upR_e (by omega)]; rfl) (by rw [e]) (by rw [e, d]) ?_
        rw [e, d, if_pos (by decide)]
        exact rd_rN hr
end RD
