/-! ===== readers in trouble; totals; mean; agreement ===== -/
def mTrS (a b : Bool) (k : Int32) (i : Nat) (x : Int32) : Int32 := if (if mHas k (nI i) = 0 then a else b) = true then x ||| (1 <<< (nI i &&& 31)) else x
theorem mTr_all : ∀ a b : Bool, ∀ k, k < 256 → mFold (mTrS a b (nI k)) 8 0 0 = (if a = true then 255 &&& (nI k ^^^ (-1)) else 0) ||| (if b = true then nI k else 0) := by decide +kernel
theorem mb_cnt {v : tmM} {s : Nat} : ∀ (d i a : Nat), i + d < 1000 → ∃ b, mFold (mBrk v s) d i (nI a) = nI b ∧ a ≤ b ∧ b ≤ a + d ∧ (b = a ↔ mFind (fun k => mRd v s k = -3) d i = -1)
  | 0, i, a, _ => ⟨a, rfl, Nat.le_refl _, Nat.le_refl _, fun _ => rfl, fun _ => rfl⟩
  | d + 1, i, a, hi => by
    by_cases h : mRd v s i = -3
    · obtain ⟨b, h1, h2, h3, _⟩ := mb_cnt (v := v) (s := s) d (i + 1) (a + 1) (by omega)
      refine ⟨b, ?_, by omega, by omega, fun q => absurd q (by omega), fun q => ?_⟩
      · show mFold (mBrk v s) d (i + 1) (nI a + (if mRd v s i = -3 then 1 else 0)) = _
        rw [if_pos h, nI_1]
        exact h1
      · rw [mFind_t h] at q
        exact absurd q (mz_neg (by omega))
    · obtain ⟨b, h1, h2, h3, h4⟩ := mb_cnt (v := v) (s := s) d (i + 1) a (by omega)
      refine ⟨b, ?_, by omega, by omega, ?_⟩
      · show mFold (mBrk v s) d (i + 1) (nI a + (if mRd v s i = -3 then 1 else 0)) = _
        rw [if_neg h, show nI a + 0 = nI a from nI_add a 0]
        exact h1
      · rw [mFind_f h]; exact h4
def mNum (v : tmM) (s k : Nat) (a : Int32) : Int32 := if mRd v s k < 0 then a else a + 1
section
variable {B : Nat} {v w : tmM} {bs : List Int32}
theorem mt_troubledReaders (h : mG B v bs w) : mDi B bs (f_X7_troubledReaders v) (f_X8_troubledReaders w) := by
  have h0 := mG_0 h
  obtain ⟨b, c1, c2, c3, c4⟩ := mb_cnt (v := v) (s := 1) 60 0 0 (by decide)
  have hb := mr_brk7 h0.1 (s := 1) (by decide)
  obtain ⟨t3, t4, t5, t6, u3, u4, ⟨kr, u5, u5'⟩, u6⟩ := mz_cs h0.1
  generalize hw0 : tm_up w 0 0 0 = w0 at h0 t5 u5'
  have L8 : ∀ (K : Int32 → tmM → Option (Int32 × tmM)) (d i F : Nat) (g : Int32), (g = 0 ∨ g = 1) → d + i = 60 → d < F → f_X8_troubledReaders_9 K F g (nI i) w0 = K (if g = 0 then (if mFind (fun k => mRd v 1 k = -3) d i = -1 then 0 else 1) else 1) w0 := by
    intro K d
    induction d with
    | zero =>
      intro i F g hg hd hF
      obtain ⟨F, rfl⟩ : ∃ G, F = G + 1 := ⟨F - 1, by omega⟩
      show f_X8_troubledReaders_9b _ _ g (nI i) w0 = _
      unfold f_X8_troubledReaders_9b
      rw [if_pos (show (60 : Int32) ≤ nI i from nI_le (a := 60) (by omega) (by omega))]
      rcases hg with rfl | rfl <;> rfl
    | succ d ih =>
      intro i F g hg hd hF
      obtain ⟨F, rfl⟩ : ∃ G, F = G + 1 := ⟨F - 1, by omega⟩
      show f_X8_troubledReaders_9b _ _ g (nI i) w0 = _
      unfold f_X8_troubledReaders_9b f_X8_troubledReaders_30 f_X8_troubledReaders_35
      rw [if_neg (show ¬ (60 : Int32) ≤ nI i from nI_ge (b := 60) (by omega) (by decide))]
      rcases hg with rfl | rfl
      · rw [if_pos rfl, if_pos rfl, ms_cl (show f_X8_valueIn 1 (nI i) w0 = _ from (mr_val h0.1 (s := 1) (by decide) (k := i) (by omega)).2)]
        by_cases z : mRd v 1 i = -3
        · rw [if_pos z, mFind_t z, if_neg (mz_neg (by omega)), nI_1, ih (i + 1) F 1 (Or.inr rfl) (by omega) (by omega), if_neg mr_10]
        · rw [if_neg z, mFind_f z, nI_1, ih (i + 1) F 0 (Or.inl rfl) (by omega) (by omega), if_pos rfl]
      · rw [if_neg mr_10, if_neg mr_10, nI_1, ih (i + 1) F 1 (Or.inr rfl) (by omega) (by omega), if_neg mr_10]
  have L7 : ∀ (g : Int32) (d i F : Nat) (x : Int32), d + i = 8 → d < F → f_X7_troubledReaders_24 (fun x8 v9 => some (x8, v9)) F g x (nI i) v = some (mFold (mTrS (decide (mHas (v 0 1) 0 = 0)) (decide (mHas (v 0 1) 1 = 0 ∨ ¬ g = 0)) (v 0 4)) d i x, v) := by
    intro g d
    induction d with
    | zero =>
      intro i F x hd hF
      obtain ⟨F, rfl⟩ : ∃ G, F = G + 1 := ⟨F - 1, by omega⟩
      show f_X7_troubledReaders_24b _ _ g x (nI i) v = _
      unfold f_X7_troubledReaders_24b
      rw [if_pos (show (8 : Int32) ≤ nI i from nI_le (a := 8) (by omega) (by omega))]
      rfl
    | succ d ih =>
      intro i F x hd hF
      obtain ⟨F, rfl⟩ : ∃ G, F = G + 1 := ⟨F - 1, by omega⟩
      show f_X7_troubledReaders_24b _ _ g x (nI i) v = some (mFold (mTrS _ _ _) d (i + 1) (mTrS _ _ _ i x), v)
      unfold f_X7_troubledReaders_24b f_X7_troubledReaders_65 f_X7_troubledReaders_71
      rw [if_neg (show ¬ (8 : Int32) ≤ nI i from nI_ge (b := 8) (by omega) (by decide)), ms_cl (mr_side7 _ _), ms_cl (mh_7 _ _ _), nI_1, tS_lt]
      have fin : ∀ y, mTrS (decide (mHas (v 0 1) 0 = 0)) (decide (mHas (v 0 1) 1 = 0 ∨ ¬ g = 0)) (v 0 4) i x = y → f_X7_troubledReaders_24 (fun x8 v9 => some (x8, v9)) F g y (nI (i + 1)) v = some (mFold (mTrS (decide (mHas (v 0 1) 0 = 0)) (decide (mHas (v 0 1) 1 = 0 ∨ ¬ g = 0)) (v 0 4)) d (i + 1) (mTrS (decide (mHas (v 0 1) 0 = 0)) (decide (mHas (v 0 1) 1 = 0 ∨ ¬ g = 0)) (v 0 4) i x), v) := fun y hy => by
        rw [hy]; exact ih (i + 1) F y (by omega) (by omega)
      rcases mh_01 (v 0 4) (nI i) with q | q
      · rw [q]
        by_cases z : mHas (v 0 1) 0 = 0
        · rw [if_pos z]
          refine fin _ ?_
          unfold mTrS
          rw [if_pos q, decide_eq_true z, if_pos rfl]
        · rw [if_neg z, if_neg (by decide)]
          refine fin _ ?_
          unfold mTrS
          rw [if_pos q, decide_eq_false z, if_neg (by decide)]
      · rw [q]
        have hq : ¬ mHas (v 0 4) (nI i) = 0 := by rw [q]; decide
        by_cases z : mHas (v 0 1) 1 = 0
        · rw [if_pos z]
          refine fin _ ?_
          unfold mTrS
          rw [if_neg hq, decide_eq_true (Or.inl z), if_pos rfl]
        · rw [if_neg z, if_pos rfl]
          by_cases y : g = 0
          · rw [if_pos y]
            refine fin _ ?_
            unfold mTrS
            rw [if_neg hq, decide_eq_false (fun r => r.elim z (fun n => n y)), if_neg (by decide)]
          · rw [if_neg y]
            refine fin _ ?_
            unfold mTrS
            rw [if_neg hq, decide_eq_true (Or.inr y), if_pos rfl]
  have g7 : f_X7_troubledReaders v = f_X7_troubledReaders_19 (if mFind (fun k => mRd v 1 k = -3) 60 0 = -1 then 0 else 1) v := by
    unfold f_X7_troubledReaders
    rw [ms_cl (show f_X5_brokenCells 1 v = _ from hb), show mFold (mBrk v 1) 60 0 0 = nI b from c1]
    by_cases z : b = 0
    · rw [if_pos (c4.mp z), z, if_pos (by decide)]
    · rw [if_neg (fun q => z (c4.mpr q)), if_neg (nI_nle (by omega) (by omega))]
  generalize hg : (if mFind (fun k => mRd v 1 k = -3) 60 0 = -1 then (0 : Int32) else 1) = g at g7
  refine ⟨mFold (mTrS (decide (mHas (v 0 1) 0 = 0)) (decide (mHas (v 0 1) 1 = 0 ∨ ¬ g = 0)) (v 0 4)) 8 0 0, v, w0, ?_, ?_, h0⟩
  · rw [g7]
    exact L7 g 8 0 10000 0 rfl (by decide)
  · unfold f_X8_troubledReaders
    rw [tS_lt, hw0]
    refine Eq.trans (L8 _ 60 0 10000 0 (Or.inl rfl) rfl (by decide)) ?_
    rw [if_pos rfl, hg, t5, u5', mTr_all _ _ kr u5, ← u5']
    simp only [ms_cl (mr_up8 h0.1 _), mr_g5, mr_n5]
    unfold f_X8_troubledReaders_66
    simp only [ms_cl (mr_up8 h0.1 _), mr_g5, mr_n5, show nI 0 = (0 : Int32) from rfl]
    by_cases z0 : mHas (v 0 1) 0 = 0
    · by_cases z1 : mHas (v 0 1) 1 = 0
      · simp [z0, z1]
      · by_cases y : g = 0
        · simp [z0, z1, y]
        · simp [z0, z1, y]
    · by_cases z1 : mHas (v 0 1) 1 = 0
      · simp [z0, z1]
      · by_cases y : g = 0
        · simp [z0, z1, y]
        · simp [z0, z1, y]
/-! totals -/
theorem ma_adds {s : Nat} (hs : s < 2) : ∀ (d i F : Nat) (w : tmM), d + i = 60 → d < F → mG B v bs w → ∃ w', f_X8_adds_27 (fun v13 => some ((), v13)) F (nI s) (nI i) w = some ((), w') ∧ mG B v bs w' ∧ w' 0 0 = w 0 0 ∧ w' 0 7 = mFold (mTot v s) d i (w 0 7) ∧ w' 0 8 = mFold (mNum v s) d i (w 0 8) ∧ w' 0 9 = mFold (mLea v s) d i (w 0 9) ∧ (mCl (w 0 10) → w' 0 10 = mFold (mGre v s) d i (w 0 10)) ∧ w' 0 11 = mFold (mBrk v s) d i (w 0 11) := by
  intro d
  induction d with
  | zero =>
    intro i F w hd hF h
    obtain ⟨F, rfl⟩ : ∃ G, F = G + 1 := ⟨F - 1, by omega⟩
    refine ⟨w, ?_, h, rfl, rfl, rfl, rfl, fun _ => rfl, rfl⟩
    show f_X8_adds_27b _ _ (nI s) (nI i) w = _
    unfold f_X8_adds_27b
    rw [if_pos (show (60 : Int32) ≤ nI i from nI_le (a := 60) (by omega) (by omega))]
  | succ d ih =>
    intro i F w hd hF h
    obtain ⟨F, rfl⟩ : ∃ G, F = G + 1 := ⟨F - 1, by omega⟩
    have hv := (mr_val h.1 hs (k := i) (by omega)).2
    have e : ¬ (60 : Int32) ≤ nI i := nI_ge (b := 60) (by omega) (by decide)
    have hst : ∃ w1, f_X8_adds_27b (fun v13 => some ((), v13)) (f_X8_adds_27 (fun v13 => some ((), v13)) F) (nI s) (nI i) w = f_X8_adds_27 (fun v13 => some ((), v13)) F (nI s) (nI (i + 1)) w1 ∧ mG B v bs w1 ∧ w1 0 0 = w 0 0 ∧ w1 0 7 = mTot v s i (w 0 7) ∧ w1 0 8 = mNum v s i (w 0 8) ∧ w1 0 9 = mLea v s i (w 0 9) ∧ (mCl (w 0 10) → w1 0 10 = mGre v s i (w 0 10) ∧ mCl (w1 0 10)) ∧ w1 0 11 = mBrk v s i (w 0 11) := by
      have e1 : f_X8_adds_27b (fun v13 => some ((), v13)) (f_X8_adds_27 (fun v13 => some ((), v13)) F) (nI s) (nI i) w = f_X8_adds_56 (fun v13 => some ((), v13)) (f_X8_adds_27 (fun v13 => some ((), v13)) F) (nI s) (nI i) (mRd v s i) (if mRd v s i = -3 then 1 else 0) (w 0 11) w := by
        unfold f_X8_adds_27b
        rw [if_neg e, ms_cl hv]
        split <;> rfl
      rw [e1]
      unfold f_X8_adds_56 f_X8_adds_132
      rw [tS_lt]
      have h1 := mG_reg h (j := 11) (by decide) (w 0 11 + (if mRd v s i = -3 then 1 else 0))
      by_cases hr : mRd v s i < 0
      · rw [if_pos hr, nI_1]
        refine ⟨_, rfl, h1, mu_ne (by omega), ?_, ?_, ?_, fun hc => ⟨?_, ?_⟩, mu_eq _ _ _ _⟩
        · rw [mu_ne (by omega)]; unfold mTot; rw [if_pos hr, Int32.add_zero]
        · rw [mu_ne (by omega)]; unfold mNum; rw [if_pos hr]
        · rw [mu_ne (by omega)]; unfold mLea; rw [if_pos hr]
        · rw [mu_ne (by omega)]
          unfold mGre
          rw [if_neg]
          intro q
          rcases hc with z | ⟨j, hj, z⟩
          · rw [z] at q
            rcases mRd_cases h.1 hs (k := i) (by omega) with ⟨_, y⟩ | ⟨_, y | ⟨j, hj, y⟩⟩
            · rw [y] at q; exact absurd q (by decide)
            · rw [y] at q; exact absurd q (by decide)
            · rw [y] at hr; exact nI_pos (by omega) hr
          · rw [z] at q
            rcases mRd_cases h.1 hs (k := i) (by omega) with ⟨_, y⟩ | ⟨_, y | ⟨j2, hj2, y⟩⟩
            · rw [y, Int32.lt_iff_toInt_lt, nI_toInt (by omega)] at q
              have : (-1 : Int32).toInt = -1 := rfl
              omega
            · rw [y, Int32.lt_iff_toInt_lt, nI_toInt (by omega)] at q
              have : (-3 : Int32).toInt = -3 := rfl
              omega
            · rw [y] at hr; exact nI_pos (by omega) hr
        · rw [mu_ne (by omega)]; exact hc
      · obtain ⟨j, hj, hrj⟩ : ∃ j, j < 1000 ∧ mRd v s i = nI j := by
          rcases mRd_cases h.1 hs (k := i) (by omega) with ⟨_, y⟩ | ⟨_, y | y⟩
          · rw [y] at hr; exact absurd (by decide) hr
          · rw [y] at hr; exact absurd (by decide) hr
          · exact y
        have e7 : tm_up w 0 11 (w 0 11 + (if mRd v s i = -3 then 1 else 0)) 0 7 = w 0 7 := mu_ne (by omega)
        have e8 : ∀ y, tm_up (tm_up w 0 11 (w 0 11 + (if mRd v s i = -3 then 1 else 0))) 0 7 y 0 8 = w 0 8 := fun y => by rw [mu_ne (by omega), mu_ne (by omega)]
        rw [if_neg hr, tS_lt, tS_lt, e7, e8]
        generalize hw3 : tm_up (tm_up (tm_up w 0 11 (w 0 11 + (if mRd v s i = -3 then 1 else 0))) 0 7 (w 0 7 + mRd v s i)) 0 8 (w 0 8 + 1) = w3
        have h3 : mG B v bs w3 := by
          rw [← hw3]
          exact mG_reg (mG_reg h1 (j := 7) (by decide) _) (j := 8) (by decide) _
        have k0 : w3 0 0 = w 0 0 := by rw [← hw3, mu_ne (by omega), mu_ne (by omega), mu_ne (by omega)]
        have k7 : w3 0 7 = w 0 7 + mRd v s i := by rw [← hw3, mu_ne (by omega), mu_eq]
        have k8 : w3 0 8 = w 0 8 + 1 := by rw [← hw3, mu_eq]
        have k9 : w3 0 9 = w 0 9 := by rw [← hw3, mu_ne (by omega), mu_ne (by omega), mu_ne (by omega)]
        have k10 : w3 0 10 = w 0 10 := by rw [← hw3, mu_ne (by omega), mu_ne (by omega), mu_ne (by omega)]
        have k11 : w3 0 11 = w 0 11 + (if mRd v s i = -3 then 1 else 0) := by rw [← hw3, mu_ne (by omega), mu_ne (by omega), mu_eq]
        have e9 : (if w3 0 9 = -1 then f_X8_adds_101 (fun v13 => some ((), v13)) (f_X8_adds_27 (fun v13 => some ((), v13)) F) (nI s) (nI i) (mRd v s i) w3 else (if w3 0 9 ≤ mRd v s i then f_X8_adds_109 (fun v13 => some ((), v13)) (f_X8_adds_27 (fun v13 => some ((), v13)) F) (nI s) (nI i) (mRd v s i) (w3 0 9) w3 else f_X8_adds_101 (fun v13 => some ((), v13)) (f_X8_adds_27 (fun v13 => some ((), v13)) F) (nI s) (nI i) (mRd v s i) w3)) = f_X8_adds_109 (fun v13 => some ((), v13)) (f_X8_adds_27 (fun v13 => some ((), v13)) F) (nI s) (nI i) (mRd v s i) (mLea v s i (w 0 9)) w3 := by
          unfold f_X8_adds_101 mLea
          rw [if_neg hr, k9]
          split
          · rfl
          · split <;> rfl
        rw [e9]
        unfold f_X8_adds_109 f_X8_adds_129 f_X8_adds_132
        rw [tS_lt, tS_lt, tS_lt, mu_ne (by omega), k10, nI_1]
        have e10 : (if mRd v s i ≤ w 0 10 then f_X8_adds_27 (fun v13 => some ((), v13)) F (nI s) (nI (i + 1)) (tm_up (tm_up w3 0 9 (mLea v s i (w 0 9))) 0 10 (w 0 10)) else f_X8_adds_27 (fun v13 => some ((), v13)) F (nI s) (nI (i + 1)) (tm_up (tm_up w3 0 9 (mLea v s i (w 0 9))) 0 10 (mRd v s i))) = f_X8_adds_27 (fun v13 => some ((), v13)) F (nI s) (nI (i + 1)) (tm_up (tm_up w3 0 9 (mLea v s i (w 0 9))) 0 10 (mGre v s i (w 0 10))) := by
          unfold mGre
          by_cases z : mRd v s i ≤ w 0 10
          · rw [if_pos z, if_neg (Int32.not_lt.mpr z)]
          · rw [if_neg z, if_pos (Int32.not_le.mp z)]
        rw [e10]
        refine ⟨_, rfl, mG_reg (mG_reg h3 (j := 9) (by decide) _) (j := 10) (by decide) _, ?_, ?_, ?_, ?_, fun hc => ⟨mu_eq _ _ _ _, ?_⟩, ?_⟩
        · rw [mu_ne (by omega), mu_ne (by omega)]; exact k0
        · rw [mu_ne (by omega), mu_ne (by omega), k7]; unfold mTot; rw [if_neg hr]
        · rw [mu_ne (by omega), mu_ne (by omega), k8]; unfold mNum; rw [if_neg hr]
        · rw [mu_ne (by omega), mu_eq]
        · rw [mu_eq]
          unfold mGre
          split
          · rw [hrj]; exact Or.inr ⟨j, hj, rfl⟩
          · exact hc
        · rw [mu_ne (by omega), mu_ne (by omega), k11]; rfl
    obtain ⟨w1, b1, b2, b3, b4, b5, b6, b7, b8⟩ := hst
    obtain ⟨w', c1, c2, c3, c4, c5, c6, c7, c8⟩ := ih (i + 1) F w1 (by omega) (by omega) b2
    refine ⟨w', b1.trans c1, c2, c3.trans b3, ?_, ?_, ?_, fun hc => ?_, ?_⟩
    · rw [c4, b4]; rfl
    · rw [c5, b5]; rfl
    · rw [c6, b6]; rfl
    · obtain ⟨d1, d2⟩ := b7 hc
      rw [c7 d2, d1]; rfl
    · rw [c8, b8]; rfl
theorem ma_adds0 {s : Nat} (hs : s < 2) (h : mG B v bs w) : ∃ w', f_X8_adds (nI s) w = some ((), w') ∧ mG B v bs w' ∧ w' 0 0 = w 0 0 ∧ w' 0 7 = mFold (mTot v s) 60 0 0 ∧ w' 0 8 = mFold (mNum v s) 60 0 0 ∧ w' 0 9 = mFold (mLea v s) 60 0 (-1) ∧ w' 0 10 = mFold (mGre v s) 60 0 (-1) ∧ w' 0 11 = mFold (mBrk v s) 60 0 0 := by
  have h5 := mG_reg (mG_reg (mG_reg (mG_reg (mG_reg h (j := 7) (by decide) 0) (j := 8) (by decide) 0) (j := 9) (by decide) (-1)) (j := 10) (by decide) (-1)) (j := 11) (by decide) 0
  obtain ⟨w', c1, c2, c3, c4, c5, c6, c7, c8⟩ := ma_adds hs 60 0 10000 _ rfl (by decide) h5
  have x10 : tm_up (tm_up (tm_up (tm_up (tm_up w 0 7 0) 0 8 0) 0 9 (-1)) 0 10 (-1)) 0 11 0 0 10 = -1 := by rw [mu_ne (by omega), mu_eq]
  refine ⟨w', ?_, c2, ?_, ?_, ?_, ?_, ?_, ?_⟩
  · unfold f_X8_adds
    rw [tS_lt, tS_lt, tS_lt, tS_lt, tS_lt]
    exact c1
  · rw [c3, mu_ne (by omega), mu_ne (by omega), mu_ne (by omega), mu_ne (by omega), mu_ne (by omega)]
  · rw [c4, mu_ne (by omega), mu_ne (by omega), mu_ne (by omega), mu_ne (by omega), mu_eq]
  · rw [c5, mu_ne (by omega), mu_ne (by omega), mu_ne (by omega), mu_eq]
  · rw [c6, mu_ne (by omega), mu_ne (by omega), mu_eq]
  · rw [c7 (by rw [x10]; exact Or.inl rfl), x10]
  · rw [c8, mu_eq]
theorem mt_total (h : mG B v bs w) (x1 x2 : Int32) : mAn B v bs w (some 1) (some 2) none (f_X7_total x1 x2 v) (f_X8_total x1 x2 w) := by
  have h0 := mG_0 h
  unfold f_X7_total f_X8_total f_X7_total_20 f_X7_total_21 f_X8_total_26
  rcases mk_side x1 with e | ⟨s, hs, rfl, e⟩
  · refine mE h (i := 0) (c := 1) ?_ (fun _ => rfl) (by decide) ?_
    · rw [ms_cl (e v w).1, mx_i0]
    · rw [ms_cl (e v w).2.2.1, if_pos rfl, tS_lt, if_neg mz_le1]
  · have hin := mk_inL x2 3 3 rfl (by decide) w
    rcases pk_ix x2 (n := 4) (by decide) with q | q | ⟨k, hk, rfl⟩
    · refine mE h (i := 1) (c := 2) ?_ (fun _ => rfl) (by decide) ?_
      · rw [ms_cl (e v w).1, mx_i1, if_pos q, mx_a0]
      · rw [ms_cl (e v w).2.2.1, if_neg mr_10, ms_cl (hin.1 q), if_pos rfl, tS_lt, if_neg mz_le2]
    · refine mE h (i := 1) (c := 2) ?_ (fun _ => rfl) (by decide) ?_
      · rw [ms_cl (e v w).1, mx_i1]
        by_cases z : x2 < 0
        · rw [if_pos z, mx_a0]
        · rw [if_neg z, if_pos (show (4 : Int32) ≤ x2 from q), mx_a0]
      · rw [ms_cl (e v w).2.2.1, if_neg mr_10, ms_cl (hin.2.1 q), if_pos rfl, tS_lt, if_neg mz_le2]
    · obtain ⟨w', c1, c2, c3, c4, c5, c6, c7, c8⟩ := ma_adds0 hs h0
      have t0 := mr_tot7 h.1 (s := s) (a := 0) (b := 59) hs (by decide) (by decide)
      have t1 := mr_lea7 h.1 hs
      have t2 := mr_gre7 h.1 hs
      have t3 := mr_brk7 h.1 hs
      have f1 : ¬ nI k < 0 := nI_pos (by omega)
      have f2 : ¬ (4 : Int32) ≤ nI k := nI_ge hk (by decide)
      have i0 : w' 0 0 = 0 := by rw [c3, mu_eq]
      rw [ms_cl (e v w).1, mx_i1, if_neg f1, if_neg f2, mx_a1, ms_cl (e v w).2.2.1, if_neg mr_10, ms_cl (hin.2.2 k (by omega) rfl), if_neg mr_10, tS_lt, if_pos mz_le0, ms_cl c1]
      rcases (show k = 0 ∨ k = 1 ∨ k = 2 ∨ k = 3 by omega) with rfl | rfl | rfl | rfl
      · refine Or.inr ⟨mFold (mTot v s) 60 0 0, v, w', ?_, ?_, i0, c2⟩
        · rw [if_pos (show nI 0 = 0 from rfl), ms_cl (show f_X5_valueSum (nI s) 0 59 v = _ from t0)]
        · rw [if_pos (show nI 0 = 0 from rfl), c4]
      · refine Or.inr ⟨mFold (mLea v s) 60 0 (-1), v, w', ?_, ?_, i0, c2⟩
        · rw [if_neg (show ¬ nI 1 = 0 by decide), if_pos (show nI 1 = 1 from rfl), ms_cl t1]
        · rw [if_neg (show ¬ nI 1 = 0 by decide), if_pos (show nI 1 = 1 from rfl), c6]
      · refine Or.inr ⟨mFold (mGre v s) 60 0 (-1), v, w', ?_, ?_, i0, c2⟩
        · rw [if_neg (show ¬ nI 2 = 0 by decide), if_neg (show ¬ nI 2 = 1 by decide), if_pos (show nI 2 = 2 from rfl), ms_cl t2]
        · rw [if_neg (show ¬ nI 2 = 0 by decide), if_neg (show ¬ nI 2 = 1 by decide), if_pos (show nI 2 = 2 from rfl), c7]
      · refine Or.inr ⟨mFold (mBrk v s) 60 0 0, v, w', ?_, ?_, i0, c2⟩
        · rw [if_neg (show ¬ nI 3 = 0 by decide), if_neg (show ¬ nI 3 = 1 by decide), if_neg (show ¬ nI 3 = 2 by decide), ms_cl t3]
        · rw [if_neg (show ¬ nI 3 = 0 by decide), if_neg (show ¬ nI 3 = 1 by decide), if_neg (show ¬ nI 3 = 2 by decide), c8]
end
