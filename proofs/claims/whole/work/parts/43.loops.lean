/-! ===== loops that read ===== -/
def mRaw (v : tmM) (s k : Nat) : Int32 := if s = 0 then v 3 k else v 4 k
def mCnt (v : tmM) (s k : Nat) (a : Int32) : Int32 := a + (if mRaw v s k = -1 then 0 else 1)
theorem mr_raw8 {B : Nat} {v w : tmM} (h : rP B v (w 1)) {s k : Nat} (hs : s < 2) (hk : k < 60) : w 1 ((if s = 0 then 11 else 71) + k) = mRaw v s k := by
  obtain ⟨_, ⟨t1, t2, _⟩, _⟩ := h
  unfold mRaw
  rcases (show s = 0 ∨ s = 1 by omega) with rfl | rfl
  · exact (t1 k hk).symm
  · exact (t2 k hk).symm
theorem mz_34 {s : Nat} (hs : s < 2) : ([3, 4] : List Nat).getD (nI s).toNatClampNeg 0 = 3 + s := by
  rcases (show s = 0 ∨ s = 1 by omega) with rfl | rfl <;> rfl
theorem mz_raw (v : tmM) {s : Nat} (hs : s < 2) (k : Nat) : v (3 + s) k = mRaw v s k := by
  rcases (show s = 0 ∨ s = 1 by omega) with rfl | rfl <;> rfl
theorem mr_rows {B : Nat} {v w : tmM} (h : rP B v (w 1)) {s : Nat} (hs : s < 2) : f_X5_rowsOf (nI s) v = some (mFold (mCnt v s) 60 0 0, v) ∧ f_X8_rowsOf (nI (if s = 0 then 11 else 71)) w = some (mFold (mCnt v s) 60 0 0, w) := by
  constructor
  · skip
    have L : ∀ (d i F : Nat) (a : Int32), d + i = 60 → d < F → f_X5_rowsOf_4 (fun x5 v6 => some (x5, v6)) F (nI s) a (nI i) v = some (mFold (mCnt v s) d i a, v) := by
      intro d
      induction d with
      | zero =>
        intro i F a hd hF
        obtain ⟨F, rfl⟩ : ∃ G, F = G + 1 := ⟨F - 1, by omega⟩
        show f_X5_rowsOf_4b _ _ (nI s) a (nI i) v = _
        unfold f_X5_rowsOf_4b
        rw [if_pos (show (60 : Int32) ≤ nI i from nI_le (a := 60) (by omega) (by omega))]
        rfl
      | succ d ih =>
        intro i F a hd hF
        obtain ⟨F, rfl⟩ : ∃ G, F = G + 1 := ⟨F - 1, by omega⟩
        show f_X5_rowsOf_4b _ _ (nI s) a (nI i) v = _
        unfold f_X5_rowsOf_4b
        rw [if_neg (show ¬ (60 : Int32) ≤ nI i from nI_ge (b := 60) (by omega) (by decide)), ms_gi hs (by decide), tS_lt, mz_34 hs, ms_gi (show i < 60 by omega) (by decide), nI_clamp (by omega), mz_raw v hs]
        unfold mFold mCnt f_X5_rowsOf_28
        by_cases h1 : mRaw v s i = -1
        · rw [if_pos h1, if_pos h1, tS_lt, nI_1]
          exact ih (i + 1) F _ (by omega) (by omega)
        · rw [if_neg h1, if_neg h1, tS_lt, nI_1]
          exact ih (i + 1) F _ (by omega) (by omega)
    exact L 60 0 10000 0 rfl (by decide)
  · generalize ho : (if s = 0 then 11 else 71) = o
    have ho2 : o ≤ 71 := by rw [← ho]; split <;> decide
    have L : ∀ (d i F : Nat) (a : Int32), d + i = 60 → d < F → f_X8_rowsOf_4 (fun x2 v3 => some (x2, v3)) F (nI o) a (nI i) w = some (mFold (mCnt v s) d i a, w) := by
      intro d
      induction d with
      | zero =>
        intro i F a hd hF
        obtain ⟨F, rfl⟩ : ∃ G, F = G + 1 := ⟨F - 1, by omega⟩
        show f_X8_rowsOf_4b _ _ (nI o) a (nI i) w = _
        unfold f_X8_rowsOf_4b
        rw [if_pos (show (60 : Int32) ≤ nI i from nI_le (a := 60) (by omega) (by omega))]
        rfl
      | succ d ih =>
        intro i F a hd hF
        obtain ⟨F, rfl⟩ : ∃ G, F = G + 1 := ⟨F - 1, by omega⟩
        show f_X8_rowsOf_4b _ _ (nI o) a (nI i) w = _
        unfold f_X8_rowsOf_4b
        have hr := mr_raw8 h hs (k := i) (by omega)
        rw [ho] at hr
        rw [if_neg (show ¬ (60 : Int32) ≤ nI i from nI_ge (b := 60) (by omega) (by decide)), nI_add, ms_gi (show o + i < 491 by omega) (by decide), nI_clamp (by omega), hr]
        unfold mFold mCnt f_X8_rowsOf_28
        by_cases h1 : mRaw v s i = -1
        · rw [if_pos h1, if_pos h1, tS_lt, nI_1]
          exact ih (i + 1) F _ (by omega) (by omega)
        · rw [if_neg h1, if_neg h1, tS_lt, nI_1]
          exact ih (i + 1) F _ (by omega) (by omega)
    exact L 60 0 10000 0 rfl (by decide)
/-- folds over a side's values -/
def mBrk (v : tmM) (s k : Nat) (a : Int32) : Int32 := a + (if mRd v s k = -3 then 1 else 0)
def mTot (v : tmM) (s k : Nat) (a : Int32) : Int32 := a + (if mRd v s k < 0 then 0 else mRd v s k)
def mLea (v : tmM) (s k : Nat) (a : Int32) : Int32 := if mRd v s k < 0 then a else if a = -1 then mRd v s k else if a ≤ mRd v s k then a else mRd v s k
def mGre (v : tmM) (s k : Nat) (a : Int32) : Int32 := if a < mRd v s k then mRd v s k else a
theorem mr_brk7 {B : Nat} {v w : tmM} (h : rP B v (w 1)) {s : Nat} (hs : s < 2) : f_X5_brokenCells (nI s) v = some (mFold (mBrk v s) 60 0 0, v) := by
  have L : ∀ (d i F : Nat) (a : Int32), d + i = 60 → d < F → f_X5_brokenCells_4 (fun x5 v6 => some (x5, v6)) F (nI s) a (nI i) v = some (mFold (mBrk v s) d i a, v) := by
    intro d
    induction d with
    | zero =>
      intro i F a hd hF
      obtain ⟨F, rfl⟩ : ∃ G, F = G + 1 := ⟨F - 1, by omega⟩
      show f_X5_brokenCells_4b _ _ (nI s) a (nI i) v = _
      unfold f_X5_brokenCells_4b
      rw [if_pos (show (60 : Int32) ≤ nI i from nI_le (a := 60) (by omega) (by omega))]
      rfl
    | succ d ih =>
      intro i F a hd hF
      obtain ⟨F, rfl⟩ : ∃ G, F = G + 1 := ⟨F - 1, by omega⟩
      show f_X5_brokenCells_4b _ _ (nI s) a (nI i) v = _
      unfold f_X5_brokenCells_4b
      rw [if_neg (show ¬ (60 : Int32) ≤ nI i from nI_ge (b := 60) (by omega) (by decide)), ms_cl (mr_val h hs (k := i) (by omega)).1]
      unfold mFold mBrk f_X5_brokenCells_27
      by_cases h1 : mRd v s i = -3
      · rw [if_pos h1, if_pos h1, tS_lt, nI_1]
        exact ih (i + 1) F _ (by omega) (by omega)
      · rw [if_neg h1, if_neg h1, tS_lt, nI_1]
        exact ih (i + 1) F _ (by omega) (by omega)
  exact L 60 0 10000 0 rfl (by decide)
theorem mr_tot7 {B : Nat} {v w : tmM} (h : rP B v (w 1)) {s a b : Nat} (hs : s < 2) (hab : a ≤ b) (hb : b < 60) : f_X5_valueSum (nI s) (nI a) (nI b) v = some (mFold (mTot v s) (b + 1 - a) a 0, v) := by
  have L : ∀ (d i F : Nat) (t : Int32), d + i = b + 1 → d < F → f_X5_valueSum_6 (fun x5 v6 => some (x5, v6)) F (nI s) (nI b) t (nI i) v = some (mFold (mTot v s) d i t, v) := by
    intro d
    induction d with
    | zero =>
      intro i F t hd hF
      obtain ⟨F, rfl⟩ : ∃ G, F = G + 1 := ⟨F - 1, by omega⟩
      show f_X5_valueSum_6b _ _ (nI s) (nI b) t (nI i) v = _
      unfold f_X5_valueSum_6b
      rw [if_pos (nI_lt (by omega) (by omega))]
      rfl
    | succ d ih =>
      intro i F t hd hF
      obtain ⟨F, rfl⟩ : ∃ G, F = G + 1 := ⟨F - 1, by omega⟩
      show f_X5_valueSum_6b _ _ (nI s) (nI b) t (nI i) v = _
      unfold f_X5_valueSum_6b
      rw [if_neg (nI_nlt (by omega) (by omega)), ms_cl (mr_val h hs (k := i) (by omega)).1, tS_lt, nI_1]
      exact ih (i + 1) F _ (by omega) (by omega)
  exact L (b + 1 - a) a 10000 0 (by omega) (by omega)
theorem mr_lea7 {B : Nat} {v w : tmM} (h : rP B v (w 1)) {s : Nat} (hs : s < 2) : f_X5_leastValue (nI s) v = some (mFold (mLea v s) 60 0 (-1), v) := by
  have L : ∀ (d i F : Nat) (a : Int32), d + i = 60 → d < F → f_X5_leastValue_4 (fun x5 v6 => some (x5, v6)) F (nI s) a (nI i) v = some (mFold (mLea v s) d i a, v) := by
    intro d
    induction d with
    | zero =>
      intro i F a hd hF
      obtain ⟨F, rfl⟩ : ∃ G, F = G + 1 := ⟨F - 1, by omega⟩
      show f_X5_leastValue_4b _ _ (nI s) a (nI i) v = _
      unfold f_X5_leastValue_4b
      rw [if_pos (show (60 : Int32) ≤ nI i from nI_le (a := 60) (by omega) (by omega))]
      rfl
    | succ d ih =>
      intro i F a hd hF
      obtain ⟨F, rfl⟩ : ∃ G, F = G + 1 := ⟨F - 1, by omega⟩
      show f_X5_leastValue_4b _ _ (nI s) a (nI i) v = _
      unfold f_X5_leastValue_4b
      rw [if_neg (show ¬ (60 : Int32) ≤ nI i from nI_ge (b := 60) (by omega) (by decide)), ms_cl (mr_val h hs (k := i) (by omega)).1]
      unfold mFold mLea f_X5_leastValue_37 f_X5_leastValue_34 f_X5_leastValue_37
      by_cases h1 : mRd v s i < 0
      · rw [if_pos h1, if_pos h1, nI_1]
        exact ih (i + 1) F _ (by omega) (by omega)
      · rw [if_neg h1, if_neg h1]
        by_cases h2 : a = -1
        · rw [if_pos h2, if_pos h2, nI_1]
          exact ih (i + 1) F _ (by omega) (by omega)
        · rw [if_neg h2, if_neg h2]
          by_cases h3 : a ≤ mRd v s i
          · rw [if_pos h3, if_pos h3, nI_1]
            exact ih (i + 1) F _ (by omega) (by omega)
          · rw [if_neg h3, if_neg h3, nI_1]
            exact ih (i + 1) F _ (by omega) (by omega)
  exact L 60 0 10000 (-1) rfl (by decide)
theorem mr_gre7 {B : Nat} {v w : tmM} (h : rP B v (w 1)) {s : Nat} (hs : s < 2) : f_X5_greatestValue (nI s) v = some (mFold (mGre v s) 60 0 (-1), v) := by
  have L : ∀ (d i F : Nat) (a : Int32), d + i = 60 → d < F → f_X5_greatestValue_4 (fun x5 v6 => some (x5, v6)) F (nI s) a (nI i) v = some (mFold (mGre v s) d i a, v) := by
    intro d
    induction d with
    | zero =>
      intro i F a hd hF
      obtain ⟨F, rfl⟩ : ∃ G, F = G + 1 := ⟨F - 1, by omega⟩
      show f_X5_greatestValue_4b _ _ (nI s) a (nI i) v = _
      unfold f_X5_greatestValue_4b
      rw [if_pos (show (60 : Int32) ≤ nI i from nI_le (a := 60) (by omega) (by omega))]
      rfl
    | succ d ih =>
      intro i F a hd hF
      obtain ⟨F, rfl⟩ : ∃ G, F = G + 1 := ⟨F - 1, by omega⟩
      show f_X5_greatestValue_4b _ _ (nI s) a (nI i) v = _
      unfold f_X5_greatestValue_4b
      rw [if_neg (show ¬ (60 : Int32) ≤ nI i from nI_ge (b := 60) (by omega) (by decide)), ms_cl (mr_val h hs (k := i) (by omega)).1, tS_lt, nI_1]
      exact ih (i + 1) F _ (by omega) (by omega)
  exact L 60 0 10000 (-1) rfl (by decide)
/-! the queue -/
def mPl (v : tmM) (n : Nat) (x : Int32) : Int32 := mFind (fun i => v 9 i = x) n 0
theorem mr_pl {n : Nat} {v w : tmM} (h : rQn n v (w 1)) (x : Int32) : f_X2_placeOf x v = some (mPl v n x, v) ∧ f_X8_placeOf x w = some (mPl v n x, w) := by
  obtain ⟨q1, q2, q3, q4, q5, q6⟩ := h
  constructor
  · skip
    have L : ∀ (d i F : Nat), d + i = n → d < F → f_X2_placeOf_2 (fun v1 => some ((-1), v1)) F x (nI i) v = some (mFind (fun i => v 9 i = x) d i, v) := by
      intro d
      induction d with
      | zero =>
        intro i F hd hF
        obtain ⟨F, rfl⟩ : ∃ G, F = G + 1 := ⟨F - 1, by omega⟩
        show f_X2_placeOf_2b _ _ x (nI i) v = _
        unfold f_X2_placeOf_2b
        rw [q2, if_pos (nI_le (by omega) (by omega))]
        rfl
      | succ d ih =>
        intro i F hd hF
        obtain ⟨F, rfl⟩ : ∃ G, F = G + 1 := ⟨F - 1, by omega⟩
        show f_X2_placeOf_2b _ _ x (nI i) v = _
        unfold f_X2_placeOf_2b
        rw [q2, if_neg (nI_ge (by omega) (by omega)), ms_gi (show i < 60 by omega) (by decide), nI_clamp (by omega)]
        unfold mFind
        by_cases h1 : v 9 i = x
        · rw [if_pos h1, if_pos h1]
        · rw [if_neg h1, if_neg h1, nI_1]
          exact ih (i + 1) F (by omega) (by omega)
    exact L n 0 10000 rfl (by omega)
  · skip
    have L : ∀ (d i F : Nat), d + i = n → d < F → f_X8_placeOf_2 (fun v1 => some ((-1), v1)) F x (nI i) w = some (mFind (fun i => v 9 i = x) d i, w) := by
      intro d
      induction d with
      | zero =>
        intro i F hd hF
        obtain ⟨F, rfl⟩ : ∃ G, F = G + 1 := ⟨F - 1, by omega⟩
        show f_X8_placeOf_2b _ _ x (nI i) w = _
        unfold f_X8_placeOf_2b
        rw [ms_g (by decide), show (7 : Int32).toNatClampNeg = 7 from rfl, q3, if_pos (nI_le (by omega) (by omega))]
        rfl
      | succ d ih =>
        intro i F hd hF
        obtain ⟨F, rfl⟩ : ∃ G, F = G + 1 := ⟨F - 1, by omega⟩
        show f_X8_placeOf_2b _ _ x (nI i) w = _
        unfold f_X8_placeOf_2b
        rw [ms_g (by decide), show (7 : Int32).toNatClampNeg = 7 from rfl, q3, if_neg (nI_ge (by omega) (by omega)), mz_131, ms_gi (show 131 + i < 491 by omega) (by decide), nI_clamp (by omega), ← q4 i (by omega)]
        unfold mFind
        by_cases h1 : v 9 i = x
        · rw [if_pos h1, if_pos h1]
        · rw [if_neg h1, if_neg h1, nI_1]
          exact ih (i + 1) F (by omega) (by omega)
    exact L n 0 10000 rfl (by omega)
def mHe (v : tmM) (c : Int32) (i : Nat) (a : Int32) : Int32 := a + (if v 9 i / 4 = c then 1 else 0)
theorem mr_held {n : Nat} {v w : tmM} (h : rQn n v (w 1)) (c : Int32) : f_X2_heldOf c v = some (mFold (mHe v c) n 0 0, v) ∧ f_X8_staleIn c w = some (mFold (mHe v c) n 0 0, w) := by
  obtain ⟨q1, q2, q3, q4, q5, q6⟩ := h
  constructor
  · skip
    have L : ∀ (d i F : Nat) (a : Int32), d + i = n → d < F → f_X2_heldOf_4 (fun x2 v3 => some (x2, v3)) F c a (nI i) v = some (mFold (mHe v c) d i a, v) := by
      intro d
      induction d with
      | zero =>
        intro i F a hd hF
        obtain ⟨F, rfl⟩ : ∃ G, F = G + 1 := ⟨F - 1, by omega⟩
        show f_X2_heldOf_4b _ _ c a (nI i) v = _
        unfold f_X2_heldOf_4b
        rw [q2, if_pos (nI_le (by omega) (by omega))]
        rfl
      | succ d ih =>
        intro i F a hd hF
        obtain ⟨F, rfl⟩ : ∃ G, F = G + 1 := ⟨F - 1, by omega⟩
        show f_X2_heldOf_4b _ _ c a (nI i) v = _
        unfold f_X2_heldOf_4b
        rw [q2, if_neg (nI_ge (by omega) (by omega)), ms_gi (show i < 60 by omega) (by decide), ms_gd (by decide), nI_clamp (by omega)]
        unfold mFold mHe f_X2_heldOf_30
        by_cases h1 : v 9 i / 4 = c
        · rw [if_pos h1, if_pos h1, tS_lt, nI_1]
          exact ih (i + 1) F _ (by omega) (by omega)
        · rw [if_neg h1, if_neg h1, tS_lt, nI_1]
          exact ih (i + 1) F _ (by omega) (by omega)
    exact L n 0 10000 0 rfl (by omega)
  · skip
    have L : ∀ (d i F : Nat) (a : Int32), d + i = n → d < F → f_X8_staleIn_4 (fun x2 v3 => some (x2, v3)) F c a (nI i) w = some (mFold (mHe v c) d i a, w) := by
      intro d
      induction d with
      | zero =>
        intro i F a hd hF
        obtain ⟨F, rfl⟩ : ∃ G, F = G + 1 := ⟨F - 1, by omega⟩
        show f_X8_staleIn_4b _ _ c a (nI i) w = _
        unfold f_X8_staleIn_4b
        rw [ms_g (by decide), show (7 : Int32).toNatClampNeg = 7 from rfl, q3, if_pos (nI_le (by omega) (by omega))]
        rfl
      | succ d ih =>
        intro i F a hd hF
        obtain ⟨F, rfl⟩ : ∃ G, F = G + 1 := ⟨F - 1, by omega⟩
        show f_X8_staleIn_4b _ _ c a (nI i) w = _
        unfold f_X8_staleIn_4b
        rw [ms_g (by decide), show (7 : Int32).toNatClampNeg = 7 from rfl, q3, if_neg (nI_ge (by omega) (by omega)), mz_131, ms_gi (show 131 + i < 491 by omega) (by decide), ms_gd (by decide), nI_clamp (by omega), ← q4 i (by omega)]
        unfold mFold mHe f_X8_staleIn_37
        by_cases h1 : v 9 i / 4 = c
        · rw [if_pos h1, if_pos h1, tS_lt, nI_1]
          exact ih (i + 1) F _ (by omega) (by omega)
        · rw [if_neg h1, if_neg h1, tS_lt, nI_1]
          exact ih (i + 1) F _ (by omega) (by omega)
    exact L n 0 10000 0 rfl (by omega)
theorem mr_holds {n : Nat} {v w : tmM} (h : rQn n v (w 1)) (x : Int32) : f_X2_holds x v = some (if mPl v n x = -1 then 0 else 1, v) := by
  unfold f_X2_holds
  rw [ms_cl (mr_pl h x).1]
  split <;> rfl
/-! all chunks' sums -/
def mSu (v : tmM) (c : Nat) : Prop := ¬ mFold (mSm v 0) 4 (4 * c) 0 = mFold (mSm v 1) 4 (4 * c) 0

