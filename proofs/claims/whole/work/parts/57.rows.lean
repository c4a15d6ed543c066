/-! ===== rows written and removed ===== -/
theorem mz_formula {a i p q : Nat} (ha : a ≤ i) (hi : i < 60) (hp : p < 1000) (hq : q < 1000) : (nI p + (nI i - nI a) * nI q) - (nI p + (nI i - nI a) * nI q) / 1000 * 1000 = nI ((p + (i - a) * q) % 1000) := by
  have h1 : (i - a) * q ≤ 60 * 1000 := Nat.mul_le_mul (by omega) (by omega)
  rw [pk_sub ha, pk_mul, nI_add]
  exact pk_rem (d := 1000) (by omega) (by decide) (by decide)
theorem mg_fill {a b p q : Nat} (hb : b < 60) (hp : p < 1000) (hq : q < 1000) : ∀ (d i F B : Nat) (v w : tmM), d + i = b + 1 → a ≤ i → d < F → rP B v (w 1) → ∃ v' w', f_X7_writeRows_32 (fun x8 v9 => some (x8, v9)) F (nI a) (nI b) (nI p) (nI q) 0 (nI i) v = some (0, v') ∧ f_X8_fill_79 (fun x14 v15 => some (x14, v15)) F (nI a) (nI b) (nI p) (nI q) 0 (nI i) w = some (0, w') ∧ rP (B + d) v' (w' 1) ∧ mFr v w v' w' := by
  intro d
  induction d with
  | zero =>
    intro i F B v w hd ha hF h
    obtain ⟨F, rfl⟩ : ∃ G, F = G + 1 := ⟨F - 1, by omega⟩
    have e : nI b < nI i := nI_lt (by omega) (by omega)
    refine ⟨v, w, ?_, ?_, h, mFr.refl v w⟩
    · show f_X7_writeRows_32b _ _ (nI a) (nI b) (nI p) (nI q) 0 (nI i) v = _
      unfold f_X7_writeRows_32b
      rw [if_pos e]
    · show f_X8_fill_79b _ _ (nI a) (nI b) (nI p) (nI q) 0 (nI i) w = _
      unfold f_X8_fill_79b
      rw [if_pos e]
  | succ d ih =>
    intro i F B v w hd ha hF h
    obtain ⟨F, rfl⟩ : ∃ G, F = G + 1 := ⟨F - 1, by omega⟩
    have e : ¬ nI b < nI i := nI_nlt (by omega) (by omega)
    obtain ⟨v1, w1, b1, b2, b3, b4, _⟩ := mm_write h (k := i) (by omega) (x := nI ((p + (i - a) * q) % 1000)) (Or.inr ⟨_, Nat.mod_lt _ (by decide), rfl⟩)
    obtain ⟨v', w', a1, a2, a3, a4⟩ := ih (i + 1) F (B + 1) v1 w1 (by omega) (by omega) (by omega) b3
    refine ⟨v', w', ?_, ?_, ?_, b4.trans a4⟩
    · show f_X7_writeRows_32b _ _ (nI a) (nI b) (nI p) (nI q) 0 (nI i) v = _
      unfold f_X7_writeRows_32b
      rw [if_neg e, ms_gd (by decide), mz_formula ha (by omega) hp hq, ms_cl b1, nI_1, a1]
    · show f_X8_fill_79b _ _ (nI a) (nI b) (nI p) (nI q) 0 (nI i) w = _
      unfold f_X8_fill_79b
      rw [if_neg e, ms_gd (by decide), mz_formula ha (by omega) hp hq, ms_cl b2, nI_1, a2]
    · rw [show B + (d + 1) = B + 1 + d by omega]; exact a3
/-- the account, and then the history or nothing -/
theorem mg_fillAll {B : Nat} {v w : tmM} {bs : List Int32} (h : mG B v bs w) {a b p q : Nat} (hab : a ≤ b) (hb : b < 60) (hp : p < 1000) (hq : q < 1000) : mR (B + 60) v bs w (f_X7_writeRows (nI a) (nI b) (nI p) (nI q) v) (tm_cl (f_X8_leads w) fun r7 v6 => tm_cl (f_X8_isUp r7 v6) fun r9 v8 => (if r9 = 0 then tm_cl (f_X8_refuses 1 v8) fun r17 v16 => some (r17, v16) else tm_cl (f_X8_does v8) fun r11 v10 => f_X8_fill_79 (fun x14 v15 => some (x14, v15)) 10000 (nI a) (nI b) (nI p) (nI q) r11 (nI a) v10)) := by
  have hw := mr_writing h.1
  unfold f_X7_writeRows
  rw [ms_cl hw, ms_cl (mr_lead8 h.1), ms_cl (mr_up8 h.1 _)]
  by_cases hu : mHas (v 0 1) (nI (mLd v)) = 0
  · obtain ⟨w', c1, c2, c3⟩ := mG_no h (k := 1) (by decide)
    simp only [if_pos hu]
    rw [ms_g (by decide), ms_g (by decide), tS_lt, if_neg mr_10, ms_cl (show f_X8_refuses 1 w = _ from c1)]
    exact ⟨1, _, w', by decide, rfl, rfl, mG_mono (by omega) c2, c3⟩
  · obtain ⟨v1, u1, b1, b2, b3, b4, b5, b6⟩ := mG_do h
    obtain ⟨v', w', a1, a2, a3, a4⟩ := mg_fill (a := a) hb hp hq (b + 1 - a) a 10000 B v1 u1 (by omega) (Nat.le_refl _) (by omega) b3.1
    simp only [if_neg hu]
    rw [ms_g (by decide), ms_g (by decide), tS_lt, if_pos trivial, show (0 : Int32).toNatClampNeg = 0 from rfl, ms_cl b1, ms_cl b2, a1, a2]
    exact ⟨0, v', w', by decide, rfl, rfl, mG_step (by omega) b3 a4 (rP_mono (by omega) a3), b6.trans (mKq.of a4)⟩
theorem mz_f1 {k p : Nat} (hp : p < 1000) (hk : k < 60) : (nI p + (nI k - nI k) * 0) - (nI p + (nI k - nI k) * 0) / 1000 * 1000 = nI p := by
  have := mz_formula (a := k) (i := k) (p := p) (q := 0) (Nat.le_refl _) hk hp (by decide)
  rw [Nat.sub_self, Nat.zero_mul, Nat.add_zero, Nat.mod_eq_of_lt hp] at this
  exact this
theorem mg_put {B : Nat} {v w : tmM} {bs : List Int32} (h : mG B v bs w) {k p : Nat} (hk : k < 60) (hp : p < 1000) : mR (B + 60) v bs w (f_X7_writeRows (nI k) (nI k) (nI p) 0 v) (f_X8_puts (nI k) (nI p) w) := by
  have hw := mr_writing h.1
  unfold f_X7_writeRows f_X8_puts f_X8_writes
  rw [ms_cl hw, ms_cl (mr_lead8 h.1), ms_cl (mr_up8 h.1 _)]
  by_cases hu : mHas (v 0 1) (nI (mLd v)) = 0
  · obtain ⟨w', c1, c2, c3⟩ := mG_no h (k := 1) (by decide)
    simp only [if_pos hu]
    rw [ms_g (by decide), ms_g (by decide), tS_lt, if_neg mr_10, ms_cl (show f_X8_refuses 1 w = _ from c1)]
    exact ⟨1, _, w', by decide, rfl, rfl, mG_mono (by omega) c2, c3⟩
  · obtain ⟨v1, u1, b1, b2, b3, b4, b5, b6⟩ := mG_do h
    obtain ⟨v', w', a1, a2, a3, a4, _⟩ := mm_write b3.1 hk (x := nI p) (Or.inr ⟨p, hp, rfl⟩)
    simp only [if_neg hu]
    rw [ms_g (by decide), ms_g (by decide), tS_lt, if_pos trivial, show (0 : Int32).toNatClampNeg = 0 from rfl, ms_cl b1, ms_cl b2, ms_cl a2, tS_cl]
    refine ⟨0, v', w', by decide, ?_, rfl, mG_step (by omega) b3 a4 (rP_mono (by omega) a3), b6.trans (mKq.of a4)⟩
    show f_X7_writeRows_32b _ (f_X7_writeRows_32 _ 9999) (nI k) (nI k) (nI p) 0 0 (nI k) v1 = _
    unfold f_X7_writeRows_32b
    rw [if_neg (nI_nlt (Nat.le_refl _) (by omega)), ms_gd (by decide), mz_f1 hp hk, ms_cl a1, nI_1]
    show f_X7_writeRows_32b _ (f_X7_writeRows_32 _ 9998) (nI k) (nI k) (nI p) 0 0 (nI (k + 1)) v' = _
    unfold f_X7_writeRows_32b
    rw [if_pos (nI_lt (by omega) (by omega))]
    rfl
/-! removing -/
theorem mg_rem1 {b : Nat} (hb : b < 60) : ∀ (d i F B : Nat) (v w : tmM), d + i = b + 1 → d < F → rP B v (w 1) → ∃ v' w', f_X7_removeRows_31 (fun x10 v11 => some (x10, v11)) F (nI b) 0 (nI i) v = some (0, v') ∧ f_X8_clearRange_76 (fun x24 v25 => some (x24, v25)) F (nI b) 0 (nI i) w = some (0, w') ∧ rP (B + d) v' (w' 1) ∧ mFr v w v' w' := by
  intro d
  induction d with
  | zero =>
    intro i F B v w hd hF h
    obtain ⟨F, rfl⟩ : ∃ G, F = G + 1 := ⟨F - 1, by omega⟩
    have e : nI b < nI i := nI_lt (by omega) (by omega)
    refine ⟨v, w, ?_, ?_, h, mFr.refl v w⟩
    · show f_X7_removeRows_31b _ _ (nI b) 0 (nI i) v = _
      unfold f_X7_removeRows_31b
      rw [if_pos e]
    · show f_X8_clearRange_76b _ _ (nI b) 0 (nI i) w = _
      unfold f_X8_clearRange_76b
      rw [if_pos e]
  | succ d ih =>
    intro i F B v w hd hF h
    obtain ⟨F, rfl⟩ : ∃ G, F = G + 1 := ⟨F - 1, by omega⟩
    have e : ¬ nI b < nI i := nI_nlt (by omega) (by omega)
    have hl := mLd_lt v
    have hm := mRd_m1 h hl (k := i) (by omega)
    show ∃ v' w', f_X7_removeRows_31b _ _ (nI b) 0 (nI i) v = _ ∧ f_X8_clearRange_76b _ _ (nI b) 0 (nI i) w = _ ∧ _
    unfold f_X7_removeRows_31b f_X8_clearRange_76b f_X7_removeRows_59 f_X8_clearRange_103
    rw [if_neg e, if_neg e, ms_cl (mr_lrow h (k := i) (by omega)), ms_cl (mr_lead8 h), ms_cl (mr_val h hl (k := i) (by omega)).2]
    by_cases hq : mRaw v (mLd v) i = -1
    · obtain ⟨v', w', a1, a2, a3, a4⟩ := ih (i + 1) F B v w (by omega) (by omega) h
      rw [if_pos hq, if_pos rfl, if_pos (hm.mpr hq), nI_1]
      exact ⟨v', w', a1, a2, rP_mono (by omega) a3, a4⟩
    · obtain ⟨v1, w1, b1, b2, b3, b4, _⟩ := mm_write h (k := i) (by omega) (x := -1) (Or.inl rfl)
      obtain ⟨v', w', a1, a2, a3, a4⟩ := ih (i + 1) F (B + 1) v1 w1 (by omega) (by omega) b3
      rw [if_neg hq, if_neg mr_10, if_neg (fun s => hq (hm.mp s)), ms_cl b1, ms_cl b2, nI_1]
      exact ⟨v', w', a1, a2, rP_mono (by omega) a3, b4.trans a4⟩
theorem mg_clear {B : Nat} {v w : tmM} {bs : List Int32} (h : mG B v bs w) {a b : Nat} (hab : a ≤ b) (hb : b < 60) : mR (B + 60) v bs w (f_X7_removeRows (nI a) (nI b) v) (tm_cl (f_X8_leads w) fun r5 v4 => tm_cl (f_X8_isUp r5 v4) fun r7 v6 => (if r7 = 0 then f_X8_clearRange_46 v6 else tm_cl (f_X8_hasRow (nI a) (nI b) v6) fun r15 v14 => (if r15 = 0 then f_X8_clearRange_46 v14 else tm_cl (f_X8_does v14) fun r17 v16 => f_X8_clearRange_76 (fun x24 v25 => some (x24, v25)) 10000 (nI b) r17 (nI a) v16))) := by
  have hw := mr_any7 h.1 hab hb
  unfold f_X7_removeRows f_X8_clearRange_46 f_X8_clearRange_64
  simp only [ms_cl hw, ms_cl (mr_lead8 h.1), ms_cl (mr_up8 h.1 _), ms_cl (mr_any8 h.1 hab hb)]
  by_cases hu : mHas (v 0 1) (nI (mLd v)) = 0
  · obtain ⟨w', c1, c2, c3⟩ := mG_no h (k := 1) (by decide)
    simp only [if_pos hu]
    rw [ms_g (by decide), ms_g (by decide), tS_lt, if_neg mr_10, ms_cl (show f_X8_refuses 1 w = _ from c1)]
    exact ⟨1, _, w', by decide, rfl, rfl, mG_mono (by omega) c2, c3⟩
  · simp only [if_neg hu]
    by_cases hr : mFind (fun k => ¬ mRaw v (mLd v) k = -1) (b + 1 - a) a = -1
    · obtain ⟨w', c1, c2, c3⟩ := mG_no h (k := 8) (by decide)
      simp only [if_pos hr]
      rw [ms_g (by decide), ms_g (by decide), tS_lt, if_neg (by decide), if_pos trivial, ms_cl (show f_X8_refuses 8 w = _ from c1)]
      exact ⟨8, _, w', by decide, rfl, rfl, mG_mono (by omega) c2, c3⟩
    · obtain ⟨v1, u1, b1, b2, b3, b4, b5, b6⟩ := mG_do h
      obtain ⟨v', w', a1, a2, a3, a4⟩ := mg_rem1 hb (b + 1 - a) a 10000 B v1 u1 (by omega) (by omega) b3.1
      simp only [if_neg hr]
      rw [ms_g (by decide), ms_g (by decide), tS_lt, if_pos trivial, if_neg mr_10, show (0 : Int32).toNatClampNeg = 0 from rfl, ms_cl b1, ms_cl b2, a1, a2]
      exact ⟨0, v', w', by decide, rfl, rfl, mG_step (by omega) b3 a4 (rP_mono (by omega) a3), b6.trans (mKq.of a4)⟩
theorem mg_remove {B : Nat} {v w : tmM} {bs : List Int32} (h : mG B v bs w) {k : Nat} (hk : k < 60) : mR (B + 60) v bs w (f_X7_removeRows (nI k) (nI k) v) (f_X8_removes (nI k) w) := by
  have hw := mr_any7 h.1 (Nat.le_refl k) hk
  have hl := mLd_lt v
  have hm := mRd_m1 h.1 hl hk
  rw [show k + 1 - k = 1 by omega] at hw
  unfold f_X7_removeRows f_X8_removes f_X8_writes
  simp only [ms_cl hw, ms_cl (mr_lead8 h.1), ms_cl (mr_up8 h.1 _), ms_cl (mr_val h.1 hl hk).2]
  by_cases hu : mHas (v 0 1) (nI (mLd v)) = 0
  · obtain ⟨w', c1, c2, c3⟩ := mG_no h (k := 1) (by decide)
    simp only [if_pos hu]
    rw [ms_g (by decide), ms_g (by decide), tS_lt, if_neg mr_10, ms_cl (show f_X8_refuses 1 w = _ from c1)]
    exact ⟨1, _, w', by decide, rfl, rfl, mG_mono (by omega) c2, c3⟩
  · simp only [if_neg hu]
    by_cases hr : mRaw v (mLd v) k = -1
    · obtain ⟨w', c1, c2, c3⟩ := mG_no h (k := 8) (by decide)
      rw [show mFind (fun k => ¬ mRaw v (mLd v) k = -1) 1 k = -1 from mFind_f (fun q => q hr), if_pos rfl, if_pos (hm.mpr hr), ms_g (by decide), ms_g (by decide), tS_lt, if_neg (by decide), ms_cl (show f_X8_refuses 8 w = _ from c1)]
      exact ⟨8, _, w', by decide, rfl, rfl, mG_mono (by omega) c2, c3⟩
    · obtain ⟨v1, u1, b1, b2, b3, b4, b5, b6⟩ := mG_do h
      have e1 : mRaw v1 (mLd v1) k = mRaw v (mLd v) k := by unfold mRaw mLd; rw [b4 0 (by decide), b4 3 (by decide), b4 4 (by decide)]
      obtain ⟨v', w', a1, a2, a3, a4, _⟩ := mm_write b3.1 hk (x := -1) (Or.inl rfl)
      rw [show mFind (fun k => ¬ mRaw v (mLd v) k = -1) 1 k = nI k from mFind_t hr, if_neg (mz_neg (by omega)), if_neg (fun s => hr (hm.mp s)), ms_g (by decide), ms_g (by decide), tS_lt, if_pos rfl, show (0 : Int32).toNatClampNeg = 0 from rfl, ms_cl b1, ms_cl b2, ms_cl a2, tS_cl]
      refine ⟨0, v', w', by decide, ?_, rfl, mG_step (by omega) b3 a4 (rP_mono (by omega) a3), b6.trans (mKq.of a4)⟩
      show f_X7_removeRows_31b _ (f_X7_removeRows_31 _ 9999) (nI k) 0 (nI k) v1 = _
      unfold f_X7_removeRows_31b f_X7_removeRows_59
      rw [if_neg (nI_nlt (Nat.le_refl _) (by omega)), ms_cl (mr_lrow b3.1 hk), e1, if_neg hr, if_neg mr_10, ms_cl a1, nI_1]
      show f_X7_removeRows_31b _ (f_X7_removeRows_31 _ 9998) (nI k) 0 (nI (k + 1)) v' = _
      unfold f_X7_removeRows_31b
      rw [if_pos (nI_lt (by omega) (by omega))]
      rfl
