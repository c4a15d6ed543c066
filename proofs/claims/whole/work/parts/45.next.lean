/-! ===== all chunks' sums; leading; what comes next ===== -/
def mSd (v : tmM) (d i : Nat) : Int32 := mFind (fun c => ¬ mFold (mSm v 0) 4 (4 * c) 0 = mFold (mSm v 1) 4 (4 * c) 0) d i
theorem mSd_t {v : tmM} {d i : Nat} (h : ¬ mFold (mSm v 0) 4 (4 * i) 0 = mFold (mSm v 1) 4 (4 * i) 0) : mSd v (d + 1) i = nI i := mFind_t (p := fun c => ¬ mFold (mSm v 0) 4 (4 * c) 0 = mFold (mSm v 1) 4 (4 * c) 0) h
theorem mSd_f {v : tmM} {d i : Nat} (h : mFold (mSm v 0) 4 (4 * i) 0 = mFold (mSm v 1) 4 (4 * i) 0) : mSd v (d + 1) i = mSd v d (i + 1) := mFind_f (p := fun c => ¬ mFold (mSm v 0) 4 (4 * c) 0 = mFold (mSm v 1) 4 (4 * c) 0) (fun q => q h)
theorem mSd_pos (v : tmM) : ∀ d i, i + d ≤ 15 → (mSd v d i = -1) ∨ ∃ j, j < 15 ∧ mSd v d i = nI j := by
  intro d i h
  rcases mFind_spec (fun c => ¬ mFold (mSm v 0) 4 (4 * c) 0 = mFold (mSm v 1) 4 (4 * c) 0) d i with ⟨h1, _⟩ | ⟨j, h1, h2, h3, _⟩
  · exact Or.inl h1
  · exact Or.inr ⟨j, by omega, h3⟩
theorem mr_some7 {B : Nat} {v w : tmM} (h : rP B v (w 1)) : f_X5_someSumsDiffer v = some (if mSd v 15 0 = -1 then 0 else 1, v) := by
  have L : ∀ (d i F : Nat), d + i = 15 → d < F → f_X5_someSumsDiffer_2 (fun v5 => some (0, v5)) F (nI i) v = some (if mSd v d i = -1 then 0 else 1, v) := by
    intro d
    induction d with
    | zero =>
      intro i F hd hF
      obtain ⟨F, rfl⟩ : ∃ G, F = G + 1 := ⟨F - 1, by omega⟩
      show f_X5_someSumsDiffer_2b _ _ (nI i) v = _
      unfold f_X5_someSumsDiffer_2b
      rw [if_pos (show (15 : Int32) ≤ nI i from nI_le (a := 15) (by omega) (by omega))]
      rfl
    | succ d ih =>
      intro i F hd hF
      obtain ⟨F, rfl⟩ : ∃ G, F = G + 1 := ⟨F - 1, by omega⟩
      show f_X5_someSumsDiffer_2b _ _ (nI i) v = _
      unfold f_X5_someSumsDiffer_2b
      have h0 := (mr_sum h (c := i) (s := 0) (by omega) (by decide)).1
      have h1 := (mr_sum h (c := i) (s := 1) (by omega) (by decide)).1
      rw [if_neg (show ¬ (15 : Int32) ≤ nI i from nI_ge (b := 15) (by omega) (by decide)), ms_cl (show f_X5_sumOf 0 (nI i) v = _ from h0), ms_cl (show f_X5_sumOf 1 (nI i) v = _ from h1)]
      by_cases hq : mFold (mSm v 0) 4 (4 * i) 0 = mFold (mSm v 1) 4 (4 * i) 0
      · rw [if_pos hq, mSd_f hq, nI_1]
        exact ih (i + 1) F (by omega) (by omega)
      · rw [if_neg hq, mSd_t hq, if_neg (mz_neg (by omega))]
  exact L 15 0 10000 rfl (by decide)
theorem mr_all8 {B : Nat} {v w : tmM} (h : rP B v (w 1)) : f_X8_areChecked w = some (if v 0 3 = 32767 then (if mSd v 15 0 = -1 then 1 else 0) else 0, w) := by
  have L : ∀ (d i F : Nat), d + i = 15 → d < F → f_X8_areChecked_20 (fun x5 v6 => tm_g (tm_bi x5) (some (x5, v6))) F 1 (nI i) w = some (if mSd v d i = -1 then 1 else 0, w) := by
    intro d
    induction d with
    | zero =>
      intro i F hd hF
      obtain ⟨F, rfl⟩ : ∃ G, F = G + 1 := ⟨F - 1, by omega⟩
      show f_X8_areChecked_20b _ _ 1 (nI i) w = _
      unfold f_X8_areChecked_20b
      rw [if_pos (show (15 : Int32) ≤ nI i from nI_le (a := 15) (by omega) (by omega))]
      rfl
    | succ d ih =>
      intro i F hd hF
      obtain ⟨F, rfl⟩ : ∃ G, F = G + 1 := ⟨F - 1, by omega⟩
      show f_X8_areChecked_20b _ _ 1 (nI i) w = _
      unfold f_X8_areChecked_20b
      have h0 := (mr_sum h (c := i) (s := 0) (by omega) (by decide)).2
      have h1 := (mr_sum h (c := i) (s := 1) (by omega) (by decide)).2
      rw [if_neg (show ¬ (15 : Int32) ≤ nI i from nI_ge (b := 15) (by omega) (by decide)), if_neg mr_10, ms_cl (show f_X8_sumOf 0 (nI i) w = _ from h0), ms_cl (show f_X8_sumOf 1 (nI i) w = _ from h1)]
      unfold f_X8_areChecked_50
      by_cases hq : mFold (mSm v 0) 4 (4 * i) 0 = mFold (mSm v 1) 4 (4 * i) 0
      · rw [if_pos hq, mSd_f hq, nI_1]
        exact ih (i + 1) F (by omega) (by omega)
      · rw [if_neg hq, mSd_t hq, if_neg (mz_neg (by omega)), nI_1]
        obtain ⟨F, rfl⟩ : ∃ G, F = G + 1 := ⟨F - 1, by omega⟩
        show f_X8_areChecked_20b _ _ 0 (nI (i + 1)) w = _
        unfold f_X8_areChecked_20b
        by_cases h5 : (15 : Int32) ≤ nI (i + 1)
        · rw [if_pos h5]; rfl
        · rw [if_neg h5, if_pos rfl]; rfl
  have s4 : v 0 3 = w 1 4 := h.1.2.2.2.1
  unfold f_X8_areChecked f_X8_areChecked_17
  rw [mr_g4, mr_n4, ← s4]
  by_cases h4 : v 0 3 = 32767
  · rw [if_pos h4, if_pos h4]
    exact L 15 0 10000 rfl (by decide)
  · rw [if_neg h4, if_neg h4]
    obtain ⟨F, hF⟩ : ∃ F, 10000 = F + 1 := ⟨9999, rfl⟩
    rw [hF]
    show f_X8_areChecked_20b _ _ 0 0 w = _
    unfold f_X8_areChecked_20b
    rw [if_neg (by decide), if_pos rfl]
    rfl
theorem mw_lead {B : Nat} {v w : tmM} (h : rP B v (w 1)) : mW (f_X4_reasonAgainstLead v) (f_X8_whyLead w) v w (fun k => k = 0 → v 0 0 = 1 ∧ v 8 1 ≤ 0) := by
  have hp := mr_phase h
  have hu := mr_ups8 h
  have hq := (mr_qlen h).1
  have h7 := mr_some7 h
  have h8 := mr_all8 h
  obtain ⟨⟨s1, s2, s3, s4, s5, s6, s7⟩, _⟩ := h
  unfold f_X4_reasonAgainstLead f_X8_whyLead
  simp only [hu, h7, h8, tS_cl, mr_g0, mr_g3, mr_g5, mr_g7, mr_n0, mr_n3', mr_n5, mr_n7]
  rw [← hq, ← hp.1]
  simp only [← s3, ← s5]
  have no : ∀ k, ¬ k + 1 = 0 := fun k => Nat.succ_ne_zero k
  by_cases h0 : v 0 0 = 1
  · simp only [if_pos h0]
    by_cases h1 : v 0 1 = 3
    · simp only [if_pos h1, if_neg mr_10]
      by_cases h2 : v 0 2 = 32767
      · simp only [if_pos h2]
        by_cases h3 : v 8 1 ≤ 0
        · simp only [if_pos h3]
          by_cases h4 : v 0 3 = 32767
          · simp only [if_pos h4]
            by_cases h5 : mSd v 15 0 = -1
            · simp only [if_pos h5, if_neg mr_10, if_true]
              by_cases h6 : v 0 4 = 255
              · simp only [if_pos h6]; exact mW_of 0 (by decide) rfl rfl (fun _ => ⟨h0, h3⟩)
              · simp only [if_neg h6]; exact mW_of 7 (by decide) rfl rfl (fun q => absurd q (by decide))
            · simp only [if_neg h5, if_neg mr_10, if_true]; exact mW_of 6 (by decide) rfl rfl (fun q => absurd q (by decide))
          · simp only [if_neg h4, if_true]; exact mW_of 6 (by decide) rfl rfl (fun q => absurd q (by decide))
        · simp only [if_neg h3]; exact mW_of 4 (by decide) rfl rfl (fun q => absurd q (by decide))
      · simp only [if_neg h2]; exact mW_of 3 (by decide) rfl rfl (fun q => absurd q (by decide))
    · simp only [if_neg h1, if_true]; exact mW_of 1 (by decide) rfl rfl (fun q => absurd q (by decide))
  · simp only [if_neg h0]; exact mW_of 2 (by decide) rfl rfl (fun q => absurd q (by decide))
/-! rows in the leading table -/
theorem mIn_cases (y : Int32) : mIn y = -3 ∨ ∃ j, j < 1000 ∧ mIn y = nI j := by
  unfold mIn
  by_cases h1 : y < 0
  · exact Or.inl (if_pos h1)
  · rw [if_neg h1]
    by_cases h2 : 999 < y
    · exact Or.inl (if_pos h2)
    · rw [if_neg h2]
      obtain ⟨j, hj, rfl⟩ := nI_of h1
      refine Or.inr ⟨j, ?_, rfl⟩
      by_cases h3 : j < 1000
      · exact h3
      · exact absurd (show (999 : Int32) < nI j from nI_lt (a := 999) (by omega) (by omega)) h2
/-- a value as a side gives it: none, broken, or 0 to 999 -/
theorem mVal_cases (f a c : Int32) : (c = -1 ∧ mVal f a c = -1) ∨ (¬ c = -1 ∧ (mVal f a c = -3 ∨ ∃ j, j < 1000 ∧ mVal f a c = nI j)) := by
  unfold mVal
  by_cases h : c = -1
  · exact Or.inl ⟨h, if_pos h⟩
  · refine Or.inr ⟨h, ?_⟩
    rw [if_neg h]
    by_cases h1 : f = 1
    · rw [if_pos h1]; exact mIn_cases _
    · rw [if_neg h1]
      by_cases h2 : f = 2
      · rw [if_pos h2]
        by_cases h3 : c - c / a * a = 0
        · rw [if_pos h3]; exact mIn_cases _
        · rw [if_neg h3]; exact Or.inl rfl
      · rw [if_neg h2]
        by_cases h3 : f = 3
        · rw [if_pos h3]; exact mIn_cases _
        · rw [if_neg h3]; exact mIn_cases _
theorem mRd_cases {B : Nat} {v w : tmM} (h : rP B v (w 1)) {s k : Nat} (hs : s < 2) (hk : k < 60) : (mRaw v s k = -1 ∧ mRd v s k = -1) ∨ (¬ mRaw v s k = -1 ∧ (mRd v s k = -3 ∨ ∃ j, j < 1000 ∧ mRd v s k = nI j)) := by
  rcases (show s = 0 ∨ s = 1 by omega) with rfl | rfl
  · show (v 3 k = -1 ∧ v 3 k = -1) ∨ (¬ v 3 k = -1 ∧ (v 3 k = -3 ∨ ∃ j, j < 1000 ∧ v 3 k = nI j))
    rcases mr_old h hk with q | ⟨j, hj, q⟩
    · exact Or.inl ⟨q, q⟩
    · exact Or.inr ⟨by rw [q]; exact mz_neg (by omega), Or.inr ⟨j, hj, q⟩⟩
  · exact mVal_cases (v 1 0) (v 1 1) (v 4 k)
theorem mRd_m1 {B : Nat} {v w : tmM} (h : rP B v (w 1)) {s k : Nat} (hs : s < 2) (hk : k < 60) : mRd v s k = -1 ↔ mRaw v s k = -1 := by
  rcases mRd_cases h hs hk with ⟨a, b⟩ | ⟨a, b | ⟨j, hj, b⟩⟩
  · exact ⟨fun _ => a, fun _ => b⟩
  · exact ⟨fun q => by rw [b] at q; exact absurd q (by decide), fun q => absurd q a⟩
  · exact ⟨fun q => by rw [b] at q; exact absurd q (mz_neg (by omega)), fun q => absurd q a⟩
theorem mr_lrow {B : Nat} {v w : tmM} (h : rP B v (w 1)) {k : Nat} (hk : k < 60) : f_X4_leadsRow (nI k) v = some (if mRaw v (mLd v) k = -1 then 0 else 1, v) := by
  unfold f_X4_leadsRow
  rw [ms_cl (mr_lead7 v), ms_gi (mLd_lt v) (by decide), tS_lt, mz_34 (mLd_lt v), ms_gi hk (by decide), nI_clamp (by omega), mz_raw v (mLd_lt v)]
  split <;> rfl
theorem mr_writing {B : Nat} {v w : tmM} (h : rP B v (w 1)) : f_X4_reasonAgainstWriting v = some (if mHas (v 0 1) (nI (mLd v)) = 0 then 1 else 0, v) := by
  unfold f_X4_reasonAgainstWriting
  rw [ms_cl (mr_lead7 v), ms_cl (mh_7 _ _ _)]
  split <;> rfl
theorem mr_any7 {B : Nat} {v w : tmM} (h : rP B v (w 1)) {a b : Nat} (hab : a ≤ b) (hb : b < 60) : f_X4_reasonAgainstRemoving (nI a) (nI b) v = some (if mHas (v 0 1) (nI (mLd v)) = 0 then 1 else if mFind (fun k => ¬ mRaw v (mLd v) k = -1) (b + 1 - a) a = -1 then 8 else 0, v) := by
  have L : ∀ (d i F : Nat), d + i = b + 1 → d < F → f_X4_reasonAgainstRemoving_18 (fun v7 => some (8, v7)) F (nI b) (nI i) v = some (if mFind (fun k => ¬ mRaw v (mLd v) k = -1) d i = -1 then 8 else 0, v) := by
    intro d
    induction d with
    | zero =>
      intro i F hd hF
      obtain ⟨F, rfl⟩ : ∃ G, F = G + 1 := ⟨F - 1, by omega⟩
      show f_X4_reasonAgainstRemoving_18b _ _ (nI b) (nI i) v = _
      unfold f_X4_reasonAgainstRemoving_18b
      rw [if_pos (nI_lt (by omega) (by omega))]
      rfl
    | succ d ih =>
      intro i F hd hF
      obtain ⟨F, rfl⟩ : ∃ G, F = G + 1 := ⟨F - 1, by omega⟩
      show f_X4_reasonAgainstRemoving_18b _ _ (nI b) (nI i) v = _
      unfold f_X4_reasonAgainstRemoving_18b
      rw [if_neg (nI_nlt (by omega) (by omega)), ms_cl (mr_lrow h (k := i) (by omega))]
      by_cases hq : mRaw v (mLd v) i = -1
      · rw [if_pos hq, if_pos rfl, mFind_f (fun q => q hq), nI_1]
        exact ih (i + 1) F (by omega) (by omega)
      · rw [if_neg hq, if_neg mr_10, mFind_t hq, if_neg (mz_neg (by omega))]
  unfold f_X4_reasonAgainstRemoving
  rw [ms_cl (mr_lead7 v), ms_cl (mh_7 _ _ _)]
  by_cases h0 : mHas (v 0 1) (nI (mLd v)) = 0
  · rw [if_pos h0, if_pos h0]
  · rw [if_neg h0, if_neg h0]
    exact L (b + 1 - a) a 10000 (by omega) (by omega)
theorem mr_any8 {B : Nat} {v w : tmM} (h : rP B v (w 1)) {a b : Nat} (hab : a ≤ b) (hb : b < 60) : f_X8_hasRow (nI a) (nI b) w = some (if mFind (fun k => ¬ mRaw v (mLd v) k = -1) (b + 1 - a) a = -1 then 0 else 1, w) := by
  have L : ∀ (d i F : Nat), d + i = b + 1 → d < F → f_X8_hasRow_2 (fun v5 => some (0, v5)) F (nI b) (nI i) w = some (if mFind (fun k => ¬ mRaw v (mLd v) k = -1) d i = -1 then 0 else 1, w) := by
    intro d
    induction d with
    | zero =>
      intro i F hd hF
      obtain ⟨F, rfl⟩ : ∃ G, F = G + 1 := ⟨F - 1, by omega⟩
      show f_X8_hasRow_2b _ _ (nI b) (nI i) w = _
      unfold f_X8_hasRow_2b
      rw [if_pos (nI_lt (by omega) (by omega))]
      rfl
    | succ d ih =>
      intro i F hd hF
      obtain ⟨F, rfl⟩ : ∃ G, F = G + 1 := ⟨F - 1, by omega⟩
      show f_X8_hasRow_2b _ _ (nI b) (nI i) w = _
      unfold f_X8_hasRow_2b
      have hm := mRd_m1 h (mLd_lt v) (k := i) (by omega)
      rw [if_neg (nI_nlt (by omega) (by omega)), ms_cl (mr_lead8 h), ms_cl (mr_val h (mLd_lt v) (k := i) (by omega)).2]
      by_cases hq : mRaw v (mLd v) i = -1
      · rw [if_pos (hm.mpr hq), mFind_f (fun q => q hq), nI_1]
        exact ih (i + 1) F (by omega) (by omega)
      · rw [if_neg (fun q => hq (hm.mp q)), mFind_t hq, if_neg (mz_neg (by omega))]
  exact L (b + 1 - a) a 10000 (by omega) (by omega)
/-! what comes next -/
theorem mn_act {B : Nat} {v w : tmM} (h : rP B v (w 1)) : ∃ r : Int32, f_X4_nextAct v = some (r, v) ∧ f_X8_nextAct w = some (r, w) ∧ ((r = -1 ∧ v 0 0 = 3) ∨ (r = 0 ∧ v 0 0 = 0) ∨ (r = 1 ∧ v 0 0 = 1) ∨ (r = 2 ∧ (v 0 0 = 1 ∨ v 0 0 = 2)) ∨ (r = 3 ∧ v 0 0 = 1 ∧ ¬ v 0 3 = 32767) ∨ (r = 4 ∧ v 0 0 = 1 ∧ ¬ v 0 4 = 255) ∨ (r = 6 ∧ v 0 0 = 1) ∨ (r = 10 ∧ v 0 0 = 2)) := by
  have hp := mr_phase h
  have hq := (mr_qlen h).1
  obtain ⟨⟨s1, s2, s3, s4, s5, s6, s7⟩, _⟩ := h
  unfold f_X4_nextAct f_X8_nextAct f_X4_nextActOfDouble f_X8_nextDouble
  simp only [mr_g0, mr_g3, mr_g4, mr_g5, mr_g7, mr_n0, mr_n3', mr_n4, mr_n5, mr_n7, tS_lt]
  simp only [← hq, ← hp.1, ← s3, ← s4, ← s5]
  rcases hp.2 with h0 | h0 | h0 | h0
  · simp only [h0, if_true]; exact ⟨0, rfl, rfl, Or.inr (Or.inl ⟨rfl, by trivial⟩)⟩
  · have e : ¬ (1 : Int32) = 0 := by decide
    simp only [h0, if_neg e, if_true]
    by_cases h1 : v 8 1 ≤ 0
    · simp only [if_pos h1]
      by_cases h2 : v 0 2 = 32767
      · simp only [if_pos h2]
        by_cases h3 : v 0 3 = 32767
        · simp only [if_pos h3]
          by_cases h4 : v 0 4 = 255
          · simp only [if_pos h4, tS_cl]; exact ⟨6, rfl, rfl, Or.inr (Or.inr (Or.inr (Or.inr (Or.inr (Or.inr (Or.inl ⟨rfl, by trivial⟩))))))⟩
          · simp only [if_neg h4, tS_cl]; exact ⟨4, rfl, rfl, Or.inr (Or.inr (Or.inr (Or.inr (Or.inr (Or.inl ⟨rfl, by trivial, h4⟩)))))⟩
        · simp only [if_neg h3, tS_cl]; exact ⟨3, rfl, rfl, Or.inr (Or.inr (Or.inr (Or.inr (Or.inl ⟨rfl, by trivial, h3⟩))))⟩
      · simp only [if_neg h2, tS_cl]; exact ⟨1, rfl, rfl, Or.inr (Or.inr (Or.inl ⟨rfl, by trivial⟩))⟩
    · simp only [if_neg h1, tS_cl]; exact ⟨2, rfl, rfl, Or.inr (Or.inr (Or.inr (Or.inl ⟨rfl, Or.inl (by trivial)⟩)))⟩
  · have e : ¬ (2 : Int32) = 0 := by decide
    have e1 : ¬ (2 : Int32) = 1 := by decide
    simp only [h0, if_neg e, if_neg e1, if_true]
    by_cases h1 : v 8 1 ≤ 0
    · simp only [if_pos h1]; exact ⟨10, rfl, rfl, Or.inr (Or.inr (Or.inr (Or.inr (Or.inr (Or.inr (Or.inr ⟨rfl, by trivial⟩))))))⟩
    · simp only [if_neg h1]; exact ⟨2, rfl, rfl, Or.inr (Or.inr (Or.inr (Or.inl ⟨rfl, Or.inr (by trivial)⟩)))⟩
  · have e : ¬ (3 : Int32) = 0 := by decide
    have e1 : ¬ (3 : Int32) = 1 := by decide
    have e2 : ¬ (3 : Int32) = 2 := by decide
    simp only [h0, if_neg e, if_neg e1, if_neg e2]; exact ⟨-1, rfl, rfl, Or.inl ⟨rfl, by trivial⟩⟩
/-- the lowest bit that is missing -/
theorem mn_low7 (a : Int32) (n : Nat) (hn : n < 100) (v : tmM) : f_X7_lowestMissing a (nI n) v = some (mFind (fun i => mHas a (nI i) = 0) n 0, v) := by
  have L : ∀ (d i F : Nat), d + i = n → d < F → f_X7_lowestMissing_2 (fun v3 => some ((-1), v3)) F a (nI n) (nI i) v = some (mFind (fun i => mHas a (nI i) = 0) d i, v) := by
    intro d
    induction d with
    | zero =>
      intro i F hd hF
      obtain ⟨F, rfl⟩ : ∃ G, F = G + 1 := ⟨F - 1, by omega⟩
      show f_X7_lowestMissing_2b _ _ a (nI n) (nI i) v = _
      unfold f_X7_lowestMissing_2b
      rw [if_pos (nI_le (by omega) (by omega))]
      rfl
    | succ d ih =>
      intro i F hd hF
      obtain ⟨F, rfl⟩ : ∃ G, F = G + 1 := ⟨F - 1, by omega⟩
      show f_X7_lowestMissing_2b _ _ a (nI n) (nI i) v = _
      unfold f_X7_lowestMissing_2b
      rw [if_neg (nI_ge (by omega) (by omega)), ms_cl (mh_7 _ _ _)]
      unfold mFind
      by_cases hq : mHas a (nI i) = 0
      · rw [if_pos hq, if_pos hq]
      · rw [if_neg hq, if_neg hq, nI_1]
        exact ih (i + 1) F (by omega) (by omega)
  exact L n 0 10000 rfl (by omega)
theorem mn_low8 (a : Int32) (n : Nat) (hn : n < 100) (w : tmM) (hx : ¬ mFind (fun i => mHas a (nI i) = 0) n 0 = -1) : f_X8_lowestOut a w = some (mFind (fun i => mHas a (nI i) = 0) n 0, w) := by
  have L : ∀ (d i F : Nat), d + i = n → d < F →  ¬ mFind (fun i => mHas a (nI i) = 0) d i = -1 →f_X8_lowestOut_2 (fun x3 v4 => some (x3, v4)) F a (nI i) w = some (mFind (fun i => mHas a (nI i) = 0) d i, w) := by
    intro d
    induction d with
    | zero =>
      intro i F hd hF hC
      obtain ⟨F, rfl⟩ : ∃ G, F = G + 1 := ⟨F - 1, by omega⟩
      show f_X8_lowestOut_2b _ _ a (nI i) w = _
      unfold f_X8_lowestOut_2b
      exact absurd rfl hC
    | succ d ih =>
      intro i F hd hF hC
      obtain ⟨F, rfl⟩ : ∃ G, F = G + 1 := ⟨F - 1, by omega⟩
      show f_X8_lowestOut_2b _ _ a (nI i) w = _
      unfold f_X8_lowestOut_2b
      rw [ms_cl (mh_8 _ _ _)]
      unfold mFind at hC ⊢
      by_cases hq : mHas a (nI i) = 0
      · rw [if_pos hq, if_pos hq]
      · rw [if_neg hq] at hC
        rw [if_neg hq, if_neg hq, nI_1]
        exact ih (i + 1) F (by omega) (by omega) hC
  exact L n 0 10000 rfl (by omega) hx
theorem mn_bits (n : Nat) (hn : n ≤ 15) (k : Nat) (hk : k < 2 ^ n - 1) : ¬ mFind (fun i => mHas (nI k) (nI i) = 0) n 0 = -1 := by
  intro q
  have h15 : 2 ^ n ≤ 2 ^ 15 := Nat.pow_le_pow_right (by decide) hn
  have h15 : 2 ^ n ≤ 32768 := h15
  rcases mFind_spec (fun i => mHas (nI k) (nI i) = 0) n 0 with ⟨_, h2⟩ | ⟨j, h1, h2, h3, _⟩
  · have hb : ∀ i, i < n → k / 2 ^ i % 2 = 1 := fun i hi => by
      have h := h2 i (Nat.zero_le _) (by omega)
      rw [mh_nat k i (by omega) (by omega)] at h
      by_cases h3 : k / 2 ^ i % 2 = 1
      · exact h3
      · rw [if_neg h3] at h; exact absurd rfl h
    have key : ∀ m, m ≤ n → k % 2 ^ m = 2 ^ m - 1 := by
      intro m
      induction m with
      | zero => intro _; exact Nat.mod_one k
      | succ m ih =>
        intro hm
        have h1 := ih (by omega)
        have h2 := hb m (by omega)
        have hp : 0 < 2 ^ m := Nat.pos_of_ne_zero (by simp)
        rw [Nat.pow_succ, Nat.mod_mul, h1, h2]
        omega
    have h4 := key n (Nat.le_refl _)
    rw [Nat.mod_eq_of_lt (by omega)] at h4
    omega
  · exact absurd (h3.symm.trans q) (mz_neg (by omega))
