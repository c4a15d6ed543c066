/-! ===== reading: small questions ===== -/
theorem mr_leader (v : tmM) : f_X4_leader v = some (if v 0 0 = 0 ∨ v 0 0 = 1 then 0 else 1, v) := by
  unfold f_X4_leader f_X4_leader_15
  by_cases h0 : v 0 0 = 0
  · rw [if_pos h0, if_pos (Or.inl h0)]
  · rw [if_neg h0]
    by_cases h1 : v 0 0 = 1
    · rw [if_pos h1, if_pos (Or.inr h1)]
    · rw [if_neg h1, if_neg (fun q => q.elim h0 h1)]
/-- the side that leads: 0 or 1 -/
def mLd (v : tmM) : Nat := if v 0 0 = 0 ∨ v 0 0 = 1 then 0 else 1
theorem mLd_lt (v : tmM) : mLd v < 2 := by unfold mLd; split <;> decide
theorem mr_lead7 (v : tmM) : f_X4_leader v = some (nI (mLd v), v) := by
  rw [mr_leader]
  unfold mLd
  split <;> rfl
theorem mr_phase {B : Nat} {v : tmM} {r : Nat → Int32} (h : rP B v r) : v 0 0 = r 0 ∧ (v 0 0 = 0 ∨ v 0 0 = 1 ∨ v 0 0 = 2 ∨ v 0 0 = 3) := by
  obtain ⟨⟨s1, _⟩, _, _, _, _, _, ⟨i1, _⟩⟩ := h
  exact ⟨s1, by rw [s1]; exact i1⟩
theorem mr_lead8 {B : Nat} {v w : tmM} (h : rP B v (w 1)) : f_X8_leads w = some (nI (mLd v), w) := by
  obtain ⟨h1, h2⟩ := mr_phase h
  unfold f_X8_leads mLd
  rw [ms_g (by decide), show (0 : Int32).toNatClampNeg = 0 from rfl, ← h1]
  rcases h2 with q | q | q | q <;> rw [q] <;> rfl
theorem mr_dbl7 (v : tmM) : f_X4_isDouble v = some (if v 0 0 = 1 ∨ v 0 0 = 2 then 1 else 0, v) := by
  unfold f_X4_isDouble f_X4_isDouble_16
  by_cases h0 : v 0 0 = 1
  · rw [if_pos h0, if_pos (Or.inl h0)]
  · rw [if_neg h0]
    by_cases h1 : v 0 0 = 2
    · rw [if_pos h1, if_pos (Or.inr h1)]
    · rw [if_neg h1, if_neg (fun q => q.elim h0 h1)]
theorem mr_dbl8 (w : tmM) : f_X8_isBoth w = some (if w 1 0 = 1 ∨ w 1 0 = 2 then 1 else 0, w) := by
  unfold f_X8_isBoth f_X8_isBoth_20
  rw [ms_g (by decide), show (0 : Int32).toNatClampNeg = 0 from rfl]
  by_cases h0 : w 1 0 = 1
  · rw [if_pos h0, if_pos (Or.inl h0)]
  · rw [if_neg h0, ms_g (by decide)]
    by_cases h1 : w 1 0 = 2
    · rw [if_pos h1, if_pos (Or.inr h1)]
    · rw [if_neg h1, if_neg (fun q => q.elim h0 h1)]
def mDb (v : tmM) : Int32 := if v 0 0 = 1 ∨ v 0 0 = 2 then 1 else 0
theorem mr_dbl {B : Nat} {v w : tmM} (h : rP B v (w 1)) : f_X4_isDouble v = some (mDb v, v) ∧ f_X8_isBoth w = some (mDb v, w) := by
  obtain ⟨h1, h2⟩ := mr_phase h
  refine ⟨mr_dbl7 v, (mr_dbl8 w).trans ?_⟩
  unfold mDb
  rw [h1]
/-- a side is up -/
theorem mr_up8 {B : Nat} {v w : tmM} (h : rP B v (w 1)) (x : Int32) : f_X8_isUp x w = some (mHas (v 0 1) x, w) := by
  obtain ⟨⟨s1, s2, _⟩, _⟩ := h
  unfold f_X8_isUp
  rw [ms_g (by decide), ms_cl (mh_8 _ _ _), ms_g (mh_bi _ _), show (6 : Int32).toNatClampNeg = 6 from rfl, ← s2]
theorem mr_ups8 {B : Nat} {v w : tmM} (h : rP B v (w 1)) : f_X8_areUp w = some (if v 0 1 = 3 then 1 else 0, w) := by
  obtain ⟨⟨s1, s2, _⟩, _⟩ := h
  unfold f_X8_areUp
  rw [ms_g (by decide), show (6 : Int32).toNatClampNeg = 6 from rfl, ← s2]
  by_cases h : v 0 1 = 3
  · rw [if_pos h, if_pos h]
  · rw [if_neg h, if_neg h]
theorem mr_side7 (x : Int32) (v : tmM) : f_X4_sideOf x v = some (mHas (v 0 4) x, v) := by
  unfold f_X4_sideOf
  rw [ms_cl (mh_7 _ _ _)]
  rcases mh_01 (v 0 4) x with h | h <;> rw [h] <;> rfl
theorem mr_side8 {B : Nat} {v w : tmM} (h : rP B v (w 1)) (x : Int32) : f_X8_sideOf x w = some (mHas (v 0 4) x, w) := by
  obtain ⟨⟨s1, s2, s3, s4, s5, _⟩, _⟩ := h
  unfold f_X8_sideOf
  rw [ms_g (by decide), ms_cl (mh_8 _ _ _), show (5 : Int32).toNatClampNeg = 5 from rfl, ← s5]
  rcases mh_01 (v 0 4) x with h | h <;> rw [h] <;> rfl
/-- differing rows -/
theorem mr_old {B : Nat} {v : tmM} {r : Nat → Int32} (h : rP B v r) {k : Nat} (hk : k < 60) : mCl (v 3 k) := by
  obtain ⟨_, ⟨t1, _⟩, _, _, _, _, ⟨_, _, _, _, _, _, i7, _⟩⟩ := h
  rw [t1 k hk]
  exact i7 k hk
theorem mr_n3 {x : Int32} (h : mCl x) : ¬ x = -3 := by
  rcases h with rfl | ⟨j, hj, rfl⟩
  · decide
  · exact fun q => nI_pos (n := j) (by omega) (by rw [q]; decide)
def mDf (v : tmM) (k : Nat) : Int32 := if mRd v 0 k = mRd v 1 k then 0 else 1
theorem mr_dif {B : Nat} {v w : tmM} (h : rP B v (w 1)) {k : Nat} (hk : k < 60) : f_X5_differ (nI k) v = some (mDf v k, v) ∧ f_X8_differs (nI k) w = some (mDf v k, w) := by
  have h0 := mr_val h (s := 0) (by decide) hk
  have h1 := mr_val h (s := 1) (by decide) hk
  have e0 : f_X5_valueAt 0 (nI k) v = some (mRd v 0 k, v) := h0.1
  have e1 : f_X5_valueAt 1 (nI k) v = some (mRd v 1 k, v) := h1.1
  have d0 : f_X8_valueIn 0 (nI k) w = some (mRd v 0 k, w) := h0.2
  have d1 : f_X8_valueIn 1 (nI k) w = some (mRd v 1 k, w) := h1.2
  have hn : ¬ mRd v 0 k = -3 := mr_n3 (mr_old h hk)
  constructor
  · unfold f_X5_differ f_X5_differ_23 mDf
    rw [ms_cl e1]
    by_cases h3 : mRd v 1 k = -3
    · rw [if_pos h3, if_neg (fun q => hn (q.trans h3))]
    · rw [if_neg h3, ms_cl e0]
      by_cases h4 : mRd v 1 k = mRd v 0 k
      · rw [if_pos h4, if_pos h4.symm]
      · rw [if_neg h4, if_neg (fun q => h4 q.symm)]
  · unfold f_X8_differs mDf
    rw [ms_cl d0, ms_cl d1]
    by_cases h4 : mRd v 0 k = mRd v 1 k
    · rw [if_pos h4, if_pos h4]
    · rw [if_neg h4, if_neg h4]
theorem mDf_01 (v : tmM) (k : Nat) : mDf v k = 0 ∨ mDf v k = 1 := by
  unfold mDf
  split
  · exact Or.inl rfl
  · exact Or.inr rfl
/-! loops over a chunk's keys -/
theorem mz_fk (c : Nat) (v : tmM) : f_X7_firstKey (nI c) v = some (nI (4 * c), v) := by
  unfold f_X7_firstKey
  rw [show nI c * 4 = nI (c * 4) from pk_mul c 4, Nat.mul_comm]
theorem mz_lk (c : Nat) (v : tmM) : f_X7_lastKey (nI c) v = some (nI (4 * c + 3), v) := by
  unfold f_X7_lastKey
  rw [show nI c * 4 = nI (c * 4) from pk_mul c 4, show nI (c * 4) + 4 = nI (c * 4 + 4) from nI_add _ 4, show c * 4 + 4 = (4 * c + 3) + 1 by omega, nI_pred]
theorem mz_4c (c : Nat) : (4 : Int32) * nI c = nI (4 * c) := pk_mul 4 c
theorem mz_4c4 (c : Nat) : (4 : Int32) * nI c + 4 = nI (4 * c + 4) := by rw [mz_4c]; exact nI_add _ 4
theorem mr_fst {B : Nat} {v w : tmM} (h : rP B v (w 1)) {c : Nat} (hc : c < 15) : f_X5_firstDifference (nI c) v = some (mFind (fun k => mDf v k = 1) 4 (4 * c), v) ∧ f_X8_firstUnlike (nI c) w = some (mFind (fun k => mDf v k = 1) 4 (4 * c), w) := by
  constructor
  · have L : ∀ (d i F : Nat), d + i = 4 * c + 4 → d < F → f_X5_firstDifference_5 (fun v7 => some ((-1), v7)) F (nI c) (nI i) v = some (mFind (fun k => mDf v k = 1) d i, v) := by
      intro d
      induction d with
      | zero =>
        intro i F hd hF
        obtain ⟨F, rfl⟩ : ∃ G, F = G + 1 := ⟨F - 1, by omega⟩
        show f_X5_firstDifference_5b _ _ (nI c) (nI i) v = _
        unfold f_X5_firstDifference_5b
        rw [ms_cl (mz_lk c v), if_pos (nI_lt (by omega) (by omega))]
        rfl
      | succ d ih =>
        intro i F hd hF
        obtain ⟨F, rfl⟩ : ∃ G, F = G + 1 := ⟨F - 1, by omega⟩
        show f_X5_firstDifference_5b _ _ (nI c) (nI i) v = _
        unfold f_X5_firstDifference_5b
        rw [ms_cl (mz_lk c v), if_neg (nI_nlt (by omega) (by omega)), ms_cl (mr_dif h (k := i) (by omega)).1]
        unfold mFind
        rcases mDf_01 v i with q | q
        · rw [q, if_pos rfl, if_neg (by decide), nI_1]
          exact ih (i + 1) F (by omega) (by omega)
        · rw [q, if_neg (by decide), if_pos rfl]
    unfold f_X5_firstDifference
    rw [ms_cl (mz_fk c v)]
    exact L 4 (4 * c) 10000 (by omega) (by decide)
  · have L : ∀ (d i F : Nat), d + i = 4 * c + 4 → d < F → f_X8_firstUnlike_4 (fun v7 => some ((-1), v7)) F (nI c) (nI i) w = some (mFind (fun k => mDf v k = 1) d i, w) := by
      intro d
      induction d with
      | zero =>
        intro i F hd hF
        obtain ⟨F, rfl⟩ : ∃ G, F = G + 1 := ⟨F - 1, by omega⟩
        show f_X8_firstUnlike_4b _ _ (nI c) (nI i) w = _
        unfold f_X8_firstUnlike_4b
        rw [mz_4c4, if_pos (nI_le (by omega) (by omega))]
        rfl
      | succ d ih =>
        intro i F hd hF
        obtain ⟨F, rfl⟩ : ∃ G, F = G + 1 := ⟨F - 1, by omega⟩
        show f_X8_firstUnlike_4b _ _ (nI c) (nI i) w = _
        unfold f_X8_firstUnlike_4b
        rw [mz_4c4, if_neg (nI_ge (by omega) (by omega)), ms_cl (mr_dif h (k := i) (by omega)).2]
        unfold mFind
        rcases mDf_01 v i with q | q
        · rw [q, if_pos rfl, if_neg (by decide), nI_1]
          exact ih (i + 1) F (by omega) (by omega)
        · rw [q, if_neg (by decide), if_pos rfl]
    unfold f_X8_firstUnlike
    rw [tS_lt, mz_4c]
    exact L 4 (4 * c) 10000 (by omega) (by decide)
/-- a key's part of a chunk's sum -/
def mSm (v : tmM) (s k : Nat) (a : Int32) : Int32 := if mRd v s k = -1 then a else if mRd v s k = -3 then a + nI (k + 1) * 1001 else a + nI (k + 1) * (mRd v s k + 1)
theorem mr_sum {B : Nat} {v w : tmM} (h : rP B v (w 1)) {c s : Nat} (hc : c < 15) (hs : s < 2) : f_X5_sumOf (nI s) (nI c) v = some (mFold (mSm v s) 4 (4 * c) 0, v) ∧ f_X8_sumOf (nI s) (nI c) w = some (mFold (mSm v s) 4 (4 * c) 0, w) := by
  constructor
  · have L : ∀ (d i F : Nat) (a : Int32), d + i = 4 * c + 4 → d < F → f_X5_sumOf_8 (fun x8 v9 => some (x8, v9)) F (nI s) (nI c) a (nI i) v = some (mFold (mSm v s) d i a, v) := by
      intro d
      induction d with
      | zero =>
        intro i F a hd hF
        obtain ⟨F, rfl⟩ : ∃ G, F = G + 1 := ⟨F - 1, by omega⟩
        show f_X5_sumOf_8b _ _ (nI s) (nI c) a (nI i) v = _
        unfold f_X5_sumOf_8b
        rw [ms_cl (mz_lk c v), if_pos (nI_lt (by omega) (by omega))]
        rfl
      | succ d ih =>
        intro i F a hd hF
        obtain ⟨F, rfl⟩ : ∃ G, F = G + 1 := ⟨F - 1, by omega⟩
        show f_X5_sumOf_8b _ _ (nI s) (nI c) a (nI i) v = _
        unfold f_X5_sumOf_8b
        rw [ms_cl (mz_lk c v), if_neg (nI_nlt (by omega) (by omega)), ms_cl (mr_val h hs (k := i) (by omega)).1]
        unfold mFold mSm f_X5_sumOf_52 f_X5_sumOf_57
        by_cases h1 : mRd v s i = -1
        · rw [if_pos h1, if_pos h1, nI_1]
          exact ih (i + 1) F a (by omega) (by omega)
        · rw [if_neg h1, if_neg h1]
          by_cases h3 : mRd v s i = -3
          · rw [if_pos h3, if_pos h3, tS_lt, nI_1, show (1000 : Int32) + 1 = 1001 from rfl]
            exact ih (i + 1) F _ (by omega) (by omega)
          · rw [if_neg h3, if_neg h3, tS_lt, nI_1]
            exact ih (i + 1) F _ (by omega) (by omega)
    unfold f_X5_sumOf
    rw [ms_cl (mz_fk c v)]
    exact L 4 (4 * c) 10000 0 (by omega) (by decide)
  · have L : ∀ (d i F : Nat) (a : Int32), d + i = 4 * c + 4 → d < F → f_X8_sumOf_7 (fun x5 v6 => some (x5, v6)) F (nI s) (nI c) a (nI i) w = some (mFold (mSm v s) d i a, w) := by
      intro d
      induction d with
      | zero =>
        intro i F a hd hF
        obtain ⟨F, rfl⟩ : ∃ G, F = G + 1 := ⟨F - 1, by omega⟩
        show f_X8_sumOf_7b _ _ (nI s) (nI c) a (nI i) w = _
        unfold f_X8_sumOf_7b
        rw [mz_4c4, if_pos (nI_le (by omega) (by omega))]
        rfl
      | succ d ih =>
        intro i F a hd hF
        obtain ⟨F, rfl⟩ : ∃ G, F = G + 1 := ⟨F - 1, by omega⟩
        show f_X8_sumOf_7b _ _ (nI s) (nI c) a (nI i) w = _
        unfold f_X8_sumOf_7b
        rw [mz_4c4, if_neg (nI_ge (by omega) (by omega)), ms_cl (mr_val h hs (k := i) (by omega)).2]
        unfold mFold mSm f_X8_sumOf_58 f_X8_sumOf_59
        by_cases h1 : mRd v s i = -1
        · rw [if_pos h1, if_pos h1, tS_lt, nI_1, Int32.add_zero]
          exact ih (i + 1) F a (by omega) (by omega)
        · rw [if_neg h1, if_neg h1]
          by_cases h3 : mRd v s i = -3
          · rw [if_pos h3, if_pos h3, tS_lt, nI_1]
            exact ih (i + 1) F _ (by omega) (by omega)
          · rw [if_neg h3, if_neg h3, tS_lt, nI_1]
            exact ih (i + 1) F _ (by omega) (by omega)
    unfold f_X8_sumOf
    rw [tS_lt, mz_4c]
    exact L 4 (4 * c) 10000 0 (by omega) (by decide)
