/-! ===== ones that are counted; count; mean; agreement ===== -/
def mB1 (k : Nat) : Nat := k - (k / 2 &&& 1431655765)
def mB2 (k : Nat) : Nat := (k &&& 858993459) + (k / 4 &&& 858993459)
def mB3 (k : Nat) : Nat := (k + k / 16) &&& 252645135
def mB4 (k : Nat) : Nat := k + k / 256
def mB5 (k : Nat) : Nat := k + k / 65536
def mBc (k : Nat) : Nat := mB5 (mB4 (mB3 (mB2 (mB1 k)))) &&& 63
def mLp : Nat → Nat → Nat → Nat → Bool
  | 0, _, _, _ => false
  | f + 1, 0, a, c => Nat.beq a c
  | f + 1, k + 1, a, c => mLp f (Nat.land (k + 1) k) (a + 1) c
def mRg : Nat → Nat → Bool
  | 0, _ => true
  | n + 1, s => (mLp 17 (s + n) 0 (mBc (s + n)) && Nat.ble (Nat.land ((s + n) / 2) 1431655765) (s + n)) && mRg n s
theorem mRg_at : ∀ (n s i : Nat), mRg n s = true → i < n → mLp 17 (s + i) 0 (mBc (s + i)) = true ∧ ((s + i) / 2 &&& 1431655765) ≤ s + i
  | 0, s, i, _, hi => absurd hi (by omega)
  | n + 1, s, i, h, hi => by
    have h1 : ((mLp 17 (s + n) 0 (mBc (s + n)) && Nat.ble (Nat.land ((s + n) / 2) 1431655765) (s + n)) && mRg n s) = true := h
    rw [Bool.and_eq_true, Bool.and_eq_true] at h1
    obtain ⟨⟨h2, h3⟩, h4⟩ := h1
    by_cases q : i = n
    · subst q
      exact ⟨h2, Nat.le_of_ble_eq_true h3⟩
    · exact mRg_at n s i h4 (by omega)
theorem mb_r0 : mRg 4096 0 = true := by decide +kernel
theorem mb_r1 : mRg 4096 4096 = true := by decide +kernel
theorem mb_r2 : mRg 4096 8192 = true := by decide +kernel
theorem mb_r3 : mRg 4096 12288 = true := by decide +kernel
theorem mb_r4 : mRg 4096 16384 = true := by decide +kernel
theorem mb_r5 : mRg 4096 20480 = true := by decide +kernel
theorem mb_r6 : mRg 4096 24576 = true := by decide +kernel
theorem mb_r7 : mRg 4096 28672 = true := by decide +kernel
theorem mb_pop {k : Nat} (hk : k < 32768) : mLp 17 k 0 (mBc k) = true ∧ (k / 2 &&& 1431655765) ≤ k := by
  have go : ∀ s, mRg 4096 s = true → s ≤ k → k < s + 4096 → mLp 17 k 0 (mBc k) = true ∧ (k / 2 &&& 1431655765) ≤ k := fun s h h1 h2 => by
    have := mRg_at 4096 s (k - s) h (by omega)
    rw [show s + (k - s) = k by omega] at this
    exact this
  by_cases h0 : k < 4096
  · exact go 0 mb_r0 (by omega) (by omega)
  by_cases h1 : k < 8192
  · exact go 4096 mb_r1 (by omega) (by omega)
  by_cases h2 : k < 12288
  · exact go 8192 mb_r2 (by omega) (by omega)
  by_cases h3 : k < 16384
  · exact go 12288 mb_r3 (by omega) (by omega)
  by_cases h4 : k < 20480
  · exact go 16384 mb_r4 (by omega) (by omega)
  by_cases h5 : k < 24576
  · exact go 20480 mb_r5 (by omega) (by omega)
  by_cases h6 : k < 28672
  · exact go 24576 mb_r6 (by omega) (by omega)
  · exact go 28672 mb_r7 (by omega) (by omega)
theorem mo_loop (K : Int32 → tmM → Option (Int32 × tmM)) (w : tmM) : ∀ (f m k a c : Nat), k < 2147483648 → mLp f k a c = true → f_X8_ones_4 K (f + m) (nI a) (nI k) w = K (nI c) w
  | 0, m, k, a, c, _, h => by exact absurd h (by unfold mLp; decide)
  | f + 1, m, 0, a, c, _, h => by
    rw [show f + 1 + m = (f + m) + 1 by omega]
    show f_X8_ones_4b _ _ (nI a) (nI 0) w = _
    unfold f_X8_ones_4b
    rw [if_pos (show nI 0 = 0 from rfl), show a = c from Nat.eq_of_beq_eq_true h]
  | f + 1, m, k + 1, a, c, hk, h => by
    rw [show f + 1 + m = (f + m) + 1 by omega]
    show f_X8_ones_4b _ _ (nI a) (nI (k + 1)) w = _
    unfold f_X8_ones_4b
    rw [if_neg (nI_ne0 (by omega) (by omega)), nI_pred, tS_lt, nI_1, mb_and]
    exact mo_loop K w f m _ (a + 1) c (Nat.lt_of_le_of_lt Nat.and_le_left hk) h
theorem mo_ones {k : Nat} (hk : k < 32768) (w : tmM) : f_X8_ones (nI k) w = some (nI (mBc k), w) := mo_loop (fun x2 v3 => some (x2, v3)) w 17 9983 k 0 (mBc k) (by omega) (mb_pop hk).1
theorem mo_bits {k : Nat} (hk : k < 32768) (v : tmM) : f_J6_bitCount_0f7a4 (nI k) v = some (nI (mBc k), v) := by
  have h1 := (mb_pop hk).2
  have b1 : mB1 k < 2 ^ 32 := by unfold mB1; omega
  have b2 : mB2 (mB1 k) < 2 ^ 32 := by
    have x := Nat.and_le_right (n := mB1 k) (m := 858993459)
    have y := Nat.and_le_right (n := mB1 k / 4) (m := 858993459)
    unfold mB2; omega
  have b3 : mB3 (mB2 (mB1 k)) ≤ 252645135 := Nat.and_le_right
  have b4 : mB4 (mB3 (mB2 (mB1 k))) < 2 ^ 32 := by unfold mB4; omega
  unfold f_J6_bitCount_0f7a4
  rw [tS_lt, tS_lt, tS_lt, tS_lt, tS_lt]
  rw [pk_ushrN (n := k) (by omega) 1 1 (by decide), show (1431655765 : Int32) = nI 1431655765 from rfl, mb_and, show k / 2 ^ 1 = k / 2 from rfl, pk_sub h1]
  show some (_, v) = _
  rw [show k - (k / 2 &&& 1431655765) = mB1 k from rfl, pk_ushrN b1 2 2 (by decide), show (858993459 : Int32) = nI 858993459 from rfl, mb_and, mb_and, nI_add, show mB1 k / 2 ^ 2 = mB1 k / 4 from rfl]
  rw [show (mB1 k &&& 858993459) + (mB1 k / 4 &&& 858993459) = mB2 (mB1 k) from rfl, pk_ushrN b2 4 4 (by decide), nI_add, show (252645135 : Int32) = nI 252645135 from rfl, mb_and, show mB2 (mB1 k) / 2 ^ 4 = mB2 (mB1 k) / 16 from rfl]
  rw [show (mB2 (mB1 k) + mB2 (mB1 k) / 16 &&& 252645135) = mB3 (mB2 (mB1 k)) from rfl, pk_ushrN (n := mB3 (mB2 (mB1 k))) (by omega) 8 8 (by decide), nI_add, show mB3 (mB2 (mB1 k)) / 2 ^ 8 = mB3 (mB2 (mB1 k)) / 256 from rfl]
  rw [show mB3 (mB2 (mB1 k)) + mB3 (mB2 (mB1 k)) / 256 = mB4 (mB3 (mB2 (mB1 k))) from rfl, pk_ushrN b4 16 16 (by decide), nI_add, show mB4 (mB3 (mB2 (mB1 k))) / 2 ^ 16 = mB4 (mB3 (mB2 (mB1 k))) / 65536 from rfl, show (63 : Int32) = nI 63 from rfl, mb_and]
  rfl
section
variable {B : Nat} {v w : tmM} {bs : List Int32}
theorem mt_count (h : mG B v bs w) (x1 : Int32) : mAn B v bs w none (some 1) none (f_X7_count x1 v) (f_X8_count x1 w) := by
  have h0 := mG_0 h
  have hin := mk_inL x1 14 14 rfl (by decide) w
  rcases pk_ix x1 (n := 15) (by decide) with q | q | ⟨k, hk, rfl⟩
  · unfold f_X7_count f_X8_count f_X7_count_14 f_X7_count_15 f_X8_count_16 f_X8_count_31
    refine mE h (i := 1) (c := 1) ?_ (fun _ => rfl) (by decide) ?_
    · rw [if_pos q, mx_a0]
    · rw [ms_cl (hin.1 q), if_pos rfl, tS_lt, if_neg mz_le1, if_pos rfl]
  · unfold f_X7_count f_X8_count f_X7_count_14 f_X7_count_15 f_X8_count_16 f_X8_count_31
    refine mE h (i := 1) (c := 1) ?_ (fun _ => rfl) (by decide) ?_
    · by_cases z : x1 < 0
      · rw [if_pos z, mx_a0]
      · rw [if_neg z, if_pos (show (15 : Int32) ≤ x1 from q), mx_a0]
    · rw [ms_cl (hin.2.1 q), if_pos rfl, tS_lt, if_neg mz_le1, if_pos rfl]
  · have go : ∀ r, f_X7_count_15 (nI k) 1 v = some ((0, r), v) → f_X8_count_31 (nI k) (nI k) (tm_up w 0 0 0) = some (r, tm_up w 0 0 0) → mAn B v bs w none (some 1) none (f_X7_count (nI k) v) (f_X8_count (nI k) w) := fun r g7 g8 => by
      refine mO h (r := r) ?_ ?_
      · unfold f_X7_count
        rw [if_neg (nI_pos (by omega)), if_neg (show ¬ (15 : Int32) ≤ nI k from nI_ge hk (by decide)), g7]
      · unfold f_X8_count f_X8_count_16
        rw [ms_cl (hin.2.2 k (by omega) rfl), if_neg mr_10, tS_lt, if_pos mz_le0, g8]
    generalize tm_up w 0 0 0 = w0 at h0 go
    obtain ⟨t3, t4, t5, t6, ⟨k3, u3, u3'⟩, ⟨k4, u4, u4'⟩, ⟨k5, u5, u5'⟩, u6⟩ := mz_cs h0.1
    have hS := h0.1.1
    have hp := mr_phase h0.1
    have hql := (mr_qlen h0.1).1
    obtain ⟨ne, e1, e2, e3, e4⟩ := h0.1.2.2.2.2.1
    obtain ⟨o, nh, y1, y2, y3, y4, y5, y6⟩ := h0.2.1
    have hr0 := mr_rows h0.1 (s := 0) (by decide)
    have hr1 := mr_rows h0.1 (s := 1) (by decide)
    rcases (show k = 0 ∨ k = 1 ∨ k = 2 ∨ k = 3 ∨ k = 4 ∨ k = 5 ∨ k = 6 ∨ k = 7 ∨ k = 8 ∨ k = 9 ∨ k = 10 ∨ k = 11 ∨ k = 12 ∨ k = 13 ∨ k = 14 by omega) with rfl | rfl | rfl | rfl | rfl | rfl | rfl | rfl | rfl | rfl | rfl | rfl | rfl | rfl | rfl
    · refine go (v 0 0) ?_ ?_
      · unfold f_X7_count_15
        rw [mx_a1, if_pos (show nI 0 = 0 from rfl)]
      · unfold f_X8_count_31
        rw [if_neg (show ¬ nI 0 = -1 by decide), if_pos (show nI 0 = 0 from rfl)]
        rw [ms_g (by decide), show (nI 0).toNatClampNeg = 0 from rfl, ← hp.1]
    · refine go (v 1 0) ?_ ?_
      · unfold f_X7_count_15
        rw [mx_a1, if_neg (show ¬ nI 1 = 0 by decide), if_pos (show nI 1 = 1 from rfl)]
      · unfold f_X8_count_31
        rw [if_neg (show ¬ nI 1 = -1 by decide), if_neg (show ¬ nI 1 = 0 by decide), if_pos (show nI 1 = 1 from rfl)]
        rw [ms_g (by decide), show (nI 1).toNatClampNeg = 1 from rfl, hS.2.2.2.2.2.1]
    · refine go (v 1 1) ?_ ?_
      · unfold f_X7_count_15
        rw [mx_a1, if_neg (show ¬ nI 2 = 0 by decide), if_neg (show ¬ nI 2 = 1 by decide), if_pos (show nI 2 = 2 from rfl)]
      · unfold f_X8_count_31
        rw [if_neg (show ¬ nI 2 = -1 by decide), if_neg (show ¬ nI 2 = 0 by decide), if_neg (show ¬ nI 2 = 1 by decide), if_pos (show nI 2 = 2 from rfl)]
        rw [ms_g (by decide), show (nI 2).toNatClampNeg = 2 from rfl, hS.2.2.2.2.2.2]
    · refine go (mFold (mCnt v 0) 60 0 0) ?_ ?_
      · unfold f_X7_count_15
        rw [mx_a1, if_neg (show ¬ nI 3 = 0 by decide), if_neg (show ¬ nI 3 = 1 by decide), if_neg (show ¬ nI 3 = 2 by decide), if_pos (show nI 3 = 3 from rfl)]
        rw [ms_cl (show f_X5_rowsOf 0 v = _ from hr0.1)]
      · unfold f_X8_count_31
        rw [if_neg (show ¬ nI 3 = -1 by decide), if_neg (show ¬ nI 3 = 0 by decide), if_neg (show ¬ nI 3 = 1 by decide), if_neg (show ¬ nI 3 = 2 by decide), if_pos (show nI 3 = 3 from rfl)]
        rw [ms_cl (show f_X8_rowsOf 11 w0 = _ from hr0.2)]
    · refine go (mFold (mCnt v 1) 60 0 0) ?_ ?_
      · unfold f_X7_count_15
        rw [mx_a1, if_neg (show ¬ nI 4 = 0 by decide), if_neg (show ¬ nI 4 = 1 by decide), if_neg (show ¬ nI 4 = 2 by decide), if_neg (show ¬ nI 4 = 3 by decide), if_pos (show nI 4 = 4 from rfl)]
        rw [ms_cl (show f_X5_rowsOf 1 v = _ from hr1.1)]
      · unfold f_X8_count_31
        rw [if_neg (show ¬ nI 4 = -1 by decide), if_neg (show ¬ nI 4 = 0 by decide), if_neg (show ¬ nI 4 = 1 by decide), if_neg (show ¬ nI 4 = 2 by decide), if_neg (show ¬ nI 4 = 3 by decide), if_pos (show nI 4 = 4 from rfl)]
        rw [ms_cl (show f_X8_rowsOf 71 w0 = _ from hr1.2)]
    · refine go (nI (mBc k3)) ?_ ?_
      · unfold f_X7_count_15
        rw [mx_a1, if_neg (show ¬ nI 5 = 0 by decide), if_neg (show ¬ nI 5 = 1 by decide), if_neg (show ¬ nI 5 = 2 by decide), if_neg (show ¬ nI 5 = 3 by decide), if_neg (show ¬ nI 5 = 4 by decide), if_pos (show nI 5 = 5 from rfl)]
        rw [t3, u3', ms_cl (mo_bits u3 v)]
      · unfold f_X8_count_31
        rw [if_neg (show ¬ nI 5 = -1 by decide), if_neg (show ¬ nI 5 = 0 by decide), if_neg (show ¬ nI 5 = 1 by decide), if_neg (show ¬ nI 5 = 2 by decide), if_neg (show ¬ nI 5 = 3 by decide), if_neg (show ¬ nI 5 = 4 by decide), if_pos (show nI 5 = 5 from rfl)]
        rw [mr_g3, mr_n3', u3', ms_cl (mo_ones u3 w0)]
    · refine go (nI (mBc k4)) ?_ ?_
      · unfold f_X7_count_15
        rw [mx_a1, if_neg (show ¬ nI 6 = 0 by decide), if_neg (show ¬ nI 6 = 1 by decide), if_neg (show ¬ nI 6 = 2 by decide), if_neg (show ¬ nI 6 = 3 by decide), if_neg (show ¬ nI 6 = 4 by decide), if_neg (show ¬ nI 6 = 5 by decide), if_pos (show nI 6 = 6 from rfl)]
        rw [t4, u4', ms_cl (mo_bits u4 v)]
      · unfold f_X8_count_31
        rw [if_neg (show ¬ nI 6 = -1 by decide), if_neg (show ¬ nI 6 = 0 by decide), if_neg (show ¬ nI 6 = 1 by decide), if_neg (show ¬ nI 6 = 2 by decide), if_neg (show ¬ nI 6 = 3 by decide), if_neg (show ¬ nI 6 = 4 by decide), if_neg (show ¬ nI 6 = 5 by decide), if_pos (show nI 6 = 6 from rfl)]
        rw [mr_g4, mr_n4, u4', ms_cl (mo_ones u4 w0)]
    · refine go (v 8 1) ?_ ?_
      · unfold f_X7_count_15
        rw [mx_a1, if_neg (show ¬ nI 7 = 0 by decide), if_neg (show ¬ nI 7 = 1 by decide), if_neg (show ¬ nI 7 = 2 by decide), if_neg (show ¬ nI 7 = 3 by decide), if_neg (show ¬ nI 7 = 4 by decide), if_neg (show ¬ nI 7 = 5 by decide), if_neg (show ¬ nI 7 = 6 by decide), if_pos (show nI 7 = 7 from rfl)]
      · unfold f_X8_count_31
        rw [if_neg (show ¬ nI 7 = -1 by decide), if_neg (show ¬ nI 7 = 0 by decide), if_neg (show ¬ nI 7 = 1 by decide), if_neg (show ¬ nI 7 = 2 by decide), if_neg (show ¬ nI 7 = 3 by decide), if_neg (show ¬ nI 7 = 4 by decide), if_neg (show ¬ nI 7 = 5 by decide), if_neg (show ¬ nI 7 = 6 by decide), if_pos (show nI 7 = 7 from rfl)]
        rw [mr_g7, mr_n7, ← hql]
    · refine go (nI (mBc k5)) ?_ ?_
      · unfold f_X7_count_15
        rw [mx_a1, if_neg (show ¬ nI 8 = 0 by decide), if_neg (show ¬ nI 8 = 1 by decide), if_neg (show ¬ nI 8 = 2 by decide), if_neg (show ¬ nI 8 = 3 by decide), if_neg (show ¬ nI 8 = 4 by decide), if_neg (show ¬ nI 8 = 5 by decide), if_neg (show ¬ nI 8 = 6 by decide), if_neg (show ¬ nI 8 = 7 by decide), if_pos (show nI 8 = 8 from rfl)]
        rw [t5, u5', ms_cl (mo_bits (by omega) v)]
      · unfold f_X8_count_31
        rw [if_neg (show ¬ nI 8 = -1 by decide), if_neg (show ¬ nI 8 = 0 by decide), if_neg (show ¬ nI 8 = 1 by decide), if_neg (show ¬ nI 8 = 2 by decide), if_neg (show ¬ nI 8 = 3 by decide), if_neg (show ¬ nI 8 = 4 by decide), if_neg (show ¬ nI 8 = 5 by decide), if_neg (show ¬ nI 8 = 6 by decide), if_neg (show ¬ nI 8 = 7 by decide), if_pos (show nI 8 = 8 from rfl)]
        rw [mr_g5, mr_n5, u5', ms_cl (mo_ones (by omega) w0)]
    · refine go (if v 0 0 = 2 then v 13 1 else 0) ?_ ?_
      · unfold f_X7_count_15
        rw [mx_a1, if_neg (show ¬ nI 9 = 0 by decide), if_neg (show ¬ nI 9 = 1 by decide), if_neg (show ¬ nI 9 = 2 by decide), if_neg (show ¬ nI 9 = 3 by decide), if_neg (show ¬ nI 9 = 4 by decide), if_neg (show ¬ nI 9 = 5 by decide), if_neg (show ¬ nI 9 = 6 by decide), if_neg (show ¬ nI 9 = 7 by decide), if_neg (show ¬ nI 9 = 8 by decide), if_pos (show nI 9 = 9 from rfl)]
        by_cases z : v 0 0 = 2
        · rw [if_pos z, if_pos z]
        · rw [if_neg z, if_neg z]
      · unfold f_X8_count_31
        rw [if_neg (show ¬ nI 9 = -1 by decide), if_neg (show ¬ nI 9 = 0 by decide), if_neg (show ¬ nI 9 = 1 by decide), if_neg (show ¬ nI 9 = 2 by decide), if_neg (show ¬ nI 9 = 3 by decide), if_neg (show ¬ nI 9 = 4 by decide), if_neg (show ¬ nI 9 = 5 by decide), if_neg (show ¬ nI 9 = 6 by decide), if_neg (show ¬ nI 9 = 7 by decide), if_neg (show ¬ nI 9 = 8 by decide), if_pos (show nI 9 = 9 from rfl), mr_g0, mr_n0, ← hp.1]
        by_cases z : v 0 0 = 2
        · obtain ⟨a, b1, b2, b3, _⟩ := h0.1.2.2.2.2.2.1 (hp.1.symm.trans z)
          rw [if_pos z, if_pos z, mr_g8, mr_n8, b2, b3]
        · rw [if_neg z, if_neg z]
    · refine go (v 10 2) ?_ ?_
      · unfold f_X7_count_15
        rw [mx_a1, if_neg (show ¬ nI 10 = 0 by decide), if_neg (show ¬ nI 10 = 1 by decide), if_neg (show ¬ nI 10 = 2 by decide), if_neg (show ¬ nI 10 = 3 by decide), if_neg (show ¬ nI 10 = 4 by decide), if_neg (show ¬ nI 10 = 5 by decide), if_neg (show ¬ nI 10 = 6 by decide), if_neg (show ¬ nI 10 = 7 by decide), if_neg (show ¬ nI 10 = 8 by decide), if_neg (show ¬ nI 10 = 9 by decide), if_pos (show nI 10 = 10 from rfl)]
      · unfold f_X8_count_31
        rw [if_neg (show ¬ nI 10 = -1 by decide), if_neg (show ¬ nI 10 = 0 by decide), if_neg (show ¬ nI 10 = 1 by decide), if_neg (show ¬ nI 10 = 2 by decide), if_neg (show ¬ nI 10 = 3 by decide), if_neg (show ¬ nI 10 = 4 by decide), if_neg (show ¬ nI 10 = 5 by decide), if_neg (show ¬ nI 10 = 6 by decide), if_neg (show ¬ nI 10 = 7 by decide), if_neg (show ¬ nI 10 = 8 by decide), if_neg (show ¬ nI 10 = 9 by decide), if_pos (show nI 10 = 10 from rfl)]
        rw [mr_g10, mr_n10, e2, e3]
    · refine go (v 247 3) ?_ ?_
      · unfold f_X7_count_15
        rw [mx_a1, if_neg (show ¬ nI 11 = 0 by decide), if_neg (show ¬ nI 11 = 1 by decide), if_neg (show ¬ nI 11 = 2 by decide), if_neg (show ¬ nI 11 = 3 by decide), if_neg (show ¬ nI 11 = 4 by decide), if_neg (show ¬ nI 11 = 5 by decide), if_neg (show ¬ nI 11 = 6 by decide), if_neg (show ¬ nI 11 = 7 by decide), if_neg (show ¬ nI 11 = 8 by decide), if_neg (show ¬ nI 11 = 9 by decide), if_neg (show ¬ nI 11 = 10 by decide), if_pos (show nI 11 = 11 from rfl)]
      · unfold f_X8_count_31
        rw [if_neg (show ¬ nI 11 = -1 by decide), if_neg (show ¬ nI 11 = 0 by decide), if_neg (show ¬ nI 11 = 1 by decide), if_neg (show ¬ nI 11 = 2 by decide), if_neg (show ¬ nI 11 = 3 by decide), if_neg (show ¬ nI 11 = 4 by decide), if_neg (show ¬ nI 11 = 5 by decide), if_neg (show ¬ nI 11 = 6 by decide), if_neg (show ¬ nI 11 = 7 by decide), if_neg (show ¬ nI 11 = 8 by decide), if_neg (show ¬ nI 11 = 9 by decide), if_neg (show ¬ nI 11 = 10 by decide), if_pos (show nI 11 = 11 from rfl)]
        rw [y4, y5]
    · refine go (mHas (v 0 1) 0) ?_ ?_
      · unfold f_X7_count_15
        rw [mx_a1, if_neg (show ¬ nI 12 = 0 by decide), if_neg (show ¬ nI 12 = 1 by decide), if_neg (show ¬ nI 12 = 2 by decide), if_neg (show ¬ nI 12 = 3 by decide), if_neg (show ¬ nI 12 = 4 by decide), if_neg (show ¬ nI 12 = 5 by decide), if_neg (show ¬ nI 12 = 6 by decide), if_neg (show ¬ nI 12 = 7 by decide), if_neg (show ¬ nI 12 = 8 by decide), if_neg (show ¬ nI 12 = 9 by decide), if_neg (show ¬ nI 12 = 10 by decide), if_neg (show ¬ nI 12 = 11 by decide), if_pos (show nI 12 = 12 from rfl)]
        rw [ms_cl (mh_7 _ _ _), mz_b7]
      · unfold f_X8_count_31
        rw [if_neg (show ¬ nI 12 = -1 by decide), if_neg (show ¬ nI 12 = 0 by decide), if_neg (show ¬ nI 12 = 1 by decide), if_neg (show ¬ nI 12 = 2 by decide), if_neg (show ¬ nI 12 = 3 by decide), if_neg (show ¬ nI 12 = 4 by decide), if_neg (show ¬ nI 12 = 5 by decide), if_neg (show ¬ nI 12 = 6 by decide), if_neg (show ¬ nI 12 = 7 by decide), if_neg (show ¬ nI 12 = 8 by decide), if_neg (show ¬ nI 12 = 9 by decide), if_neg (show ¬ nI 12 = 10 by decide), if_neg (show ¬ nI 12 = 11 by decide), if_pos (show nI 12 = 12 from rfl)]
        rw [ms_cl (mr_up8 h0.1 _), mz_b8]
    · refine go (mHas (v 0 1) 1) ?_ ?_
      · unfold f_X7_count_15
        rw [mx_a1, if_neg (show ¬ nI 13 = 0 by decide), if_neg (show ¬ nI 13 = 1 by decide), if_neg (show ¬ nI 13 = 2 by decide), if_neg (show ¬ nI 13 = 3 by decide), if_neg (show ¬ nI 13 = 4 by decide), if_neg (show ¬ nI 13 = 5 by decide), if_neg (show ¬ nI 13 = 6 by decide), if_neg (show ¬ nI 13 = 7 by decide), if_neg (show ¬ nI 13 = 8 by decide), if_neg (show ¬ nI 13 = 9 by decide), if_neg (show ¬ nI 13 = 10 by decide), if_neg (show ¬ nI 13 = 11 by decide), if_neg (show ¬ nI 13 = 12 by decide), if_pos (show nI 13 = 13 from rfl)]
        rw [ms_cl (mh_7 _ _ _), mz_b7]
      · unfold f_X8_count_31
        rw [if_neg (show ¬ nI 13 = -1 by decide), if_neg (show ¬ nI 13 = 0 by decide), if_neg (show ¬ nI 13 = 1 by decide), if_neg (show ¬ nI 13 = 2 by decide), if_neg (show ¬ nI 13 = 3 by decide), if_neg (show ¬ nI 13 = 4 by decide), if_neg (show ¬ nI 13 = 5 by decide), if_neg (show ¬ nI 13 = 6 by decide), if_neg (show ¬ nI 13 = 7 by decide), if_neg (show ¬ nI 13 = 8 by decide), if_neg (show ¬ nI 13 = 9 by decide), if_neg (show ¬ nI 13 = 10 by decide), if_neg (show ¬ nI 13 = 11 by decide), if_neg (show ¬ nI 13 = 12 by decide), if_pos (show nI 13 = 13 from rfl)]
        rw [ms_cl (mr_up8 h0.1 _), mz_b8]
    · refine go (nI (mLd v)) ?_ ?_
      · unfold f_X7_count_15
        rw [mx_a1, if_neg (show ¬ nI 14 = 0 by decide), if_neg (show ¬ nI 14 = 1 by decide), if_neg (show ¬ nI 14 = 2 by decide), if_neg (show ¬ nI 14 = 3 by decide), if_neg (show ¬ nI 14 = 4 by decide), if_neg (show ¬ nI 14 = 5 by decide), if_neg (show ¬ nI 14 = 6 by decide), if_neg (show ¬ nI 14 = 7 by decide), if_neg (show ¬ nI 14 = 8 by decide), if_neg (show ¬ nI 14 = 9 by decide), if_neg (show ¬ nI 14 = 10 by decide), if_neg (show ¬ nI 14 = 11 by decide), if_neg (show ¬ nI 14 = 12 by decide), if_neg (show ¬ nI 14 = 13 by decide)]
        rw [ms_cl (mr_lead7 v)]
      · unfold f_X8_count_31
        rw [if_neg (show ¬ nI 14 = -1 by decide), if_neg (show ¬ nI 14 = 0 by decide), if_neg (show ¬ nI 14 = 1 by decide), if_neg (show ¬ nI 14 = 2 by decide), if_neg (show ¬ nI 14 = 3 by decide), if_neg (show ¬ nI 14 = 4 by decide), if_neg (show ¬ nI 14 = 5 by decide), if_neg (show ¬ nI 14 = 6 by decide), if_neg (show ¬ nI 14 = 7 by decide), if_neg (show ¬ nI 14 = 8 by decide), if_neg (show ¬ nI 14 = 9 by decide), if_neg (show ¬ nI 14 = 10 by decide), if_neg (show ¬ nI 14 = 11 by decide), if_neg (show ¬ nI 14 = 12 by decide), if_neg (show ¬ nI 14 = 13 by decide), if_pos (show nI 14 = 14 from rfl)]
        rw [ms_cl (mr_lead8 h0.1)]
theorem mq_three {s : Nat} (h : rP B v (w 1)) (hs : s < 2) : ∀ (d i a b c : Nat), i + d ≤ 60 → a = b + c → ∃ r y z, mFold (mCnt v s) d i (nI a) = nI r ∧ mFold (mBrk v s) d i (nI b) = nI y ∧ mFold (mNum v s) d i (nI c) = nI z ∧ r = y + z ∧ r ≤ a + d
  | 0, i, a, b, c, _, e => ⟨a, b, c, rfl, rfl, rfl, e, Nat.le_refl _⟩
  | d + 1, i, a, b, c, hi, e => by
    have z0 : ∀ x, nI x + 0 = nI x := fun x => nI_add x 0
    rcases mRd_cases h hs (k := i) (by omega) with ⟨q, y⟩ | ⟨q, y | ⟨j, hj, y⟩⟩
    · obtain ⟨r, p, z, h1, h2, h3, h4, h5⟩ := mq_three h hs d (i + 1) a b c (by omega) e
      refine ⟨r, p, z, ?_, ?_, ?_, h4, by omega⟩
      · show mFold (mCnt v s) d (i + 1) (nI a + (if mRaw v s i = -1 then 0 else 1)) = _
        rw [if_pos q, z0]; exact h1
      · show mFold (mBrk v s) d (i + 1) (nI b + (if mRd v s i = -3 then 1 else 0)) = _
        rw [y, if_neg (by decide), z0]; exact h2
      · show mFold (mNum v s) d (i + 1) (if mRd v s i < 0 then nI c else nI c + 1) = _
        rw [y, if_pos (by decide)]; exact h3
    · obtain ⟨r, p, z, h1, h2, h3, h4, h5⟩ := mq_three h hs d (i + 1) (a + 1) (b + 1) c (by omega) (by omega)
      refine ⟨r, p, z, ?_, ?_, ?_, h4, by omega⟩
      · show mFold (mCnt v s) d (i + 1) (nI a + (if mRaw v s i = -1 then 0 else 1)) = _
        rw [if_neg q, nI_1]; exact h1
      · show mFold (mBrk v s) d (i + 1) (nI b + (if mRd v s i = -3 then 1 else 0)) = _
        rw [y, if_pos rfl, nI_1]; exact h2
      · show mFold (mNum v s) d (i + 1) (if mRd v s i < 0 then nI c else nI c + 1) = _
        rw [y, if_pos (by decide)]; exact h3
    · obtain ⟨r, p, z, h1, h2, h3, h4, h5⟩ := mq_three h hs d (i + 1) (a + 1) b (c + 1) (by omega) (by omega)
      refine ⟨r, p, z, ?_, ?_, ?_, h4, by omega⟩
      · show mFold (mCnt v s) d (i + 1) (nI a + (if mRaw v s i = -1 then 0 else 1)) = _
        rw [if_neg q, nI_1]; exact h1
      · show mFold (mBrk v s) d (i + 1) (nI b + (if mRd v s i = -3 then 1 else 0)) = _
        rw [y, if_neg (mr_n3 (Or.inr ⟨j, hj, rfl⟩)), z0]; exact h2
      · show mFold (mNum v s) d (i + 1) (if mRd v s i < 0 then nI c else nI c + 1) = _
        rw [y, if_neg (nI_pos (by omega)), nI_1]; exact h3
theorem mt_mean {B' : Nat} (hB : B ≤ B') (h : mG B v bs w) (x1 : Int32) (xo : Int64) (xd : UInt64) : ∃ (k : Int32) (xo' : Int64) (xd' : UInt64) (v' : tmM) (bs' : List Int32) (r : UInt64) (w1 w2 : tmM), tl_cx (f_X7_mean x1 v) (fun r v' => some (0, ((xo, r), (v', bs)))) (fun i v' => tl_kx (some 1) none none i ((xo, xd), (v', bs))) = some (k, ((xo', xd'), (v', bs'))) ∧ f_X8_mean x1 w = some (r, w1) ∧ f_X8_thrown w1 = some (k, w2) ∧ (k = 0 → FP.dcmp xd' r = some .eq) ∧ mG B' v' bs' w2 := by
  have h0 := mG_0 h
  unfold f_X7_mean f_X8_mean f_X8_mean_13
  rcases mk_side x1 with e | ⟨s, hs, rfl, e⟩
  · refine ⟨1, xo, xd, v, bs, FP.dconst0, tm_up w 0 0 1, tm_up w 0 0 1, ?_, ?_, ?_, fun q => absurd q mr_10, mG_mono hB (mG_reg h (by decide) 1)⟩
    · rw [ms_cl (e v w).1, mx_i0]; rfl
    · rw [ms_cl (e v w).2.2.1, if_pos rfl, tS_lt, if_neg mz_le1]
    · unfold f_X8_thrown; rw [mu_eq]
  · obtain ⟨w', c1, c2, c3, c4, c5, c6, c7, c8⟩ := ma_adds0 hs h0
    obtain ⟨r, y, z, p1, p2, p3, p4, p5⟩ := mq_three h.1 hs 60 0 0 0 0 (by decide) rfl
    have t0 := mr_tot7 h.1 (s := s) (a := 0) (b := 59) hs (by decide) (by decide)
    have t1 := (mr_rows h.1 hs).1
    have t3 := mr_brk7 h.1 hs
    have i0 : w' 0 0 = 0 := by rw [c3, mu_eq]
    have e8 : w' 0 8 = nI z := c5.trans p3
    have ey : nI r - nI y = nI z := by rw [pk_sub (by omega)]; congr 1; omega
    rw [ms_cl (e v w).1, mx_i1, ms_cl t1, ms_cl t3, tS_lt, show mFold (mCnt v s) 60 0 0 = nI r from p1, show mFold (mBrk v s) 60 0 0 = nI y from p2, ey, ms_cl (e v w).2.2.1, if_neg mr_10, tS_lt, if_pos mz_le0, ms_cl c1, e8]
    by_cases zz : nI z = 0
    · rw [if_pos zz, if_pos zz]
      exact ⟨0, xo, _, v, bs, _, w', w', rfl, rfl, by unfold f_X8_thrown; rw [i0], fun _ => mf_eq mf_m1, mG_mono hB c2⟩
    · have hd := mf_div (w' 0 7) (nI z) zz
      have hg : tm_n64 (FP.ddiv (FP.i2d (w' 0 7)) (FP.i2d (nI z))) = true := decide_eq_true hd
      rw [if_neg zz, if_neg zz, ms_cl (show f_X5_valueSum (nI s) 0 59 v = _ from t0), show mFold (mTot v s) (59 + 1 - 0) 0 0 = w' 0 7 from c4.symm, ms_g hg, ms_g hg]
      exact ⟨0, xo, _, v, bs, _, w', w', rfl, rfl, by unfold f_X8_thrown; rw [i0], fun _ => mf_eq hd, mG_mono hB c2⟩
/-! agreement -/
theorem mr_some78 (h : rP B v (w 1)) {k : Nat} (hk : k < 60) : f_X5_hasRowSomewhere (nI k) v = some (if v 3 k = -1 ∧ v 4 k = -1 then 0 else 1, v) ∧ f_X8_hasKey (nI k) w = some (if v 3 k = -1 ∧ v 4 k = -1 then 0 else 1, w) := by
  have hT := h.2.1
  constructor
  · unfold f_X5_hasRowSomewhere f_X5_hasRowSomewhere_24
    have g0 : ∀ {β : Type} (x : Option β), tm_g (tm_ix 0 2) x = x := fun x => ms_g (by decide)
    have g1 : ∀ {β : Type} (x : Option β), tm_g (tm_ix 1 2) x = x := fun x => ms_g (by decide)
    have gk : ∀ {β : Type} (x : Option β), tm_g (tm_ix (nI k) 60) x = x := fun x => ms_gi hk (by decide)
    simp only [g0, g1, gk, tS_lt, nI_clamp (show k < 2 ^ 31 by omega)]
    show (if v 3 k = -1 then (if v 4 k = -1 then some (0, v) else some (1, v)) else some (1, v)) = _
    by_cases a : v 3 k = -1
    · by_cases b : v 4 k = -1
      · rw [if_pos a, if_pos b, if_pos ⟨a, b⟩]
      · rw [if_pos a, if_neg b, if_neg (fun q => b q.2)]
    · rw [if_neg a, if_neg (fun q => a q.1)]
  · unfold f_X8_hasKey f_X8_hasKey_26
    rw [mz_11, mz_71, ms_gi (show 11 + k < 491 by omega) (by decide), nI_clamp (by omega), ← hT.1 k hk, ms_gi (show 71 + k < 491 by omega) (by decide), nI_clamp (by omega), ← hT.2.1 k hk]
    by_cases a : v 3 k = -1
    · by_cases b : v 4 k = -1
      · rw [if_pos a, if_pos b, if_pos ⟨a, b⟩]
      · rw [if_pos a, if_neg b, if_neg (fun q => b q.2)]
    · rw [if_neg a, if_neg (fun q => a q.1)]
theorem mt_agreement {B' : Nat} (hB : B ≤ B') (h : mG B v bs w) : ∃ (r r2 : UInt32) (v' w' : tmM), f_X7_agreement v = some (r, v') ∧ f_X8_agreement w = some (r2, w') ∧ vf_n64 (FP.f2d r) ∧ vf_n64 (FP.f2d r2) ∧ FP.dcmp (FP.f2d r) (FP.f2d r2) = some .eq ∧ mG B' v' bs w' := by
  have h0 := mG_0 h
  unfold f_X7_agreement f_X8_agreement
  rw [tS_lt]
  generalize tm_up w 0 0 0 = w0 at h0
  have L : ∀ (d i F : Nat) (a b : Int32), d + i = 60 → d < F → ∃ x y, f_X7_agreement_6 (fun x6 x7 v8 => (if x6 = 0 then some (FP.fconst1, v8) else tm_g (tm_n32 (FP.fdiv (FP.i2f x7) (FP.i2f x6))) (some (FP.fdiv (FP.i2f x7) (FP.i2f x6), v8)))) F a b (nI i) v = (if x = 0 then some (FP.fconst1, v) else tm_g (tm_n32 (FP.fdiv (FP.i2f y) (FP.i2f x))) (some (FP.fdiv (FP.i2f y) (FP.i2f x), v))) ∧ f_X8_agreement_11 (fun x10 x11 v12 => (if x10 = 0 then some (FP.fconst1, v12) else tm_g (tm_n32 (FP.fdiv (FP.i2f x11) (FP.i2f x10))) (some (FP.fdiv (FP.i2f x11) (FP.i2f x10), v12)))) F a b (nI i) w0 = (if x = 0 then some (FP.fconst1, w0) else tm_g (tm_n32 (FP.fdiv (FP.i2f y) (FP.i2f x))) (some (FP.fdiv (FP.i2f y) (FP.i2f x), w0))) := by
    intro d
    induction d with
    | zero =>
      intro i F a b hd hF
      obtain ⟨F, rfl⟩ : ∃ G, F = G + 1 := ⟨F - 1, by omega⟩
      have e : (60 : Int32) ≤ nI i := nI_le (a := 60) (by omega) (by omega)
      refine ⟨a, b, ?_, ?_⟩
      · show f_X7_agreement_6b _ _ a b (nI i) v = _
        unfold f_X7_agreement_6b
        rw [if_pos e]
      · show f_X8_agreement_11b _ _ a b (nI i) w0 = _
        unfold f_X8_agreement_11b
        rw [if_pos e]
    | succ d ih =>
      intro i F a b hd hF
      obtain ⟨F, rfl⟩ : ∃ G, F = G + 1 := ⟨F - 1, by omega⟩
      have e : ¬ (60 : Int32) ≤ nI i := nI_ge (b := 60) (by omega) (by decide)
      have hk := mr_some78 h0.1 (k := i) (by omega)
      have hq := mr_dif h0.1 (k := i) (by omega)
      show ∃ x y, f_X7_agreement_6b _ _ a b (nI i) v = _ ∧ f_X8_agreement_11b _ _ a b (nI i) w0 = _
      unfold f_X7_agreement_6b f_X8_agreement_11b f_X7_agreement_49 f_X7_agreement_51 f_X8_agreement_31 f_X8_agreement_54 f_X8_agreement_55
      rw [if_neg e, if_neg e, ms_cl hk.1, ms_cl hk.2]
      simp only [ms_cl hk.2, tS_lt]
      by_cases z : v 3 i = -1 ∧ v 4 i = -1
      · rw [if_pos z, if_pos rfl, if_pos rfl, if_pos rfl, nI_1, Int32.add_zero, Int32.add_zero]
        exact ih (i + 1) F a b (by omega) (by omega)
      · rw [if_neg z, if_neg mr_10, if_neg mr_10, if_neg mr_10, ms_cl hq.1, ms_cl hq.2, nI_1]
        rcases mDf_01 v i with q | q
        · rw [q, if_pos rfl, if_pos rfl]
          exact ih (i + 1) F (a + 1) (b + 1) (by omega) (by omega)
        · rw [q, if_neg mr_10, if_neg mr_10, Int32.add_zero]
          exact ih (i + 1) F (a + 1) b (by omega) (by omega)
  obtain ⟨x, y, l1, l2⟩ := L 60 0 10000 0 0 rfl (by decide)
  by_cases z : x = 0
  · rw [if_pos z] at l1 l2
    exact ⟨_, _, v, w0, l1, l2, mf_f2d mf_one, mf_f2d mf_one, mf_eq (mf_f2d mf_one), mG_mono hB h0⟩
  · have hd := mf_fdiv y x z
    have hg : tm_n32 (FP.fdiv (FP.i2f y) (FP.i2f x)) = true := decide_eq_true hd
    rw [if_neg z, ms_g hg] at l1 l2
    exact ⟨_, _, v, w0, l1, l2, mf_f2d hd, mf_f2d hd, mf_eq (mf_f2d hd), mG_mono hB h0⟩
end
