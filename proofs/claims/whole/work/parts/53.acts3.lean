/-! ===== check, readers, lead, back ===== -/
theorem mh_count {v : tmM} {c : Int32} : ∀ (d i a : Nat), ∃ b, mFold (mHe v c) d i (nI a) = nI b ∧ a ≤ b ∧ b ≤ a + d ∧ (b = a → ∀ j, i ≤ j → j < i + d → ¬ v 9 j / 4 = c)
  | 0, i, a => ⟨a, rfl, Nat.le_refl _, Nat.le_refl _, fun _ j h1 h2 => absurd h2 (by omega)⟩
  | d + 1, i, a => by
    by_cases h : v 9 i / 4 = c
    · obtain ⟨b, h1, h2, h3, _⟩ := mh_count (v := v) (c := c) d (i + 1) (a + 1)
      refine ⟨b, ?_, by omega, by omega, fun q => absurd q (by omega)⟩
      show mFold (mHe v c) d (i + 1) (nI a + (if v 9 i / 4 = c then 1 else 0)) = _
      rw [if_pos h, nI_1]
      exact h1
    · obtain ⟨b, h1, h2, h3, h4⟩ := mh_count (v := v) (c := c) d (i + 1) a
      refine ⟨b, ?_, by omega, by omega, fun q j p1 p2 => ?_⟩
      · show mFold (mHe v c) d (i + 1) (nI a + (if v 9 i / 4 = c then 1 else 0)) = _
        rw [if_neg h, show nI a + 0 = nI a from nI_add a 0]
        exact h1
      · by_cases s : j = i
        · rw [s]; exact h
        · exact h4 q j (by omega) (by omega)
theorem mh_none {n : Nat} {v w : tmM} (hQ : rQn n v (w 1)) {c : Nat} (h : mFold (mHe v (nI c)) n 0 0 ≤ 0) {i a : Nat} (hi : i < n) (ha : a < 60) (hw : w 1 (131 + i) = nI a) : ¬ a / 4 = c := by
  obtain ⟨q1, q2, q3, q4, q5, q6⟩ := hQ
  obtain ⟨b, h1, h2, h3, h4⟩ := mh_count (v := v) (c := nI c) n 0 0
  have hb : b = 0 := by
    have e : nI b ≤ 0 := h1 ▸ h
    by_cases z : b = 0
    · exact z
    · exact absurd e (nI_nle (by omega) (by omega))
  intro s
  refine h4 hb i (Nat.zero_le _) (by omega) ?_
  rw [q4 i hi, hw, mz_d4 (by omega), s]
theorem mRd_congr {v v' : tmM} (h1 : v' 1 = v 1) {k : Nat} (h3 : v' 3 k = v 3 k) (h4 : v' 4 k = v 4 k) (s : Nat) : mRd v' s k = mRd v s k := by
  unfold mRd
  rw [h1, h3, h4]
theorem mSm_fold {v v' : tmM} (h1 : v' 1 = v 1) (h3 : v' 3 = v 3) (h4 : v' 4 = v 4) (s d i : Nat) (a : Int32) : mFold (mSm v' s) d i a = mFold (mSm v s) d i a := by
  apply mFold_congr
  intro j _ _ x
  unfold mSm
  rw [mRd_congr h1 (by rw [h3]) (by rw [h4])]
/-- an event before, on the reference's side, the change of a bit -/
theorem me_ev4 {B : Nat} {v w : tmM} {x : Int32} (h : rP B v (tm_up w 1 4 x 1)) (a b : Int32) : ∃ v' w', f_X1_add a b v = some ((), v') ∧ f_X8_notes a b w = some ((), w') ∧ rP B v' (tm_up w' 1 4 x 1) ∧ mEf v w v' w' := by
  obtain ⟨n, hE⟩ := h.2.2.2.2.1
  have hE1 : rEn n v (w 1) := rEn_ext (fun _ _ _ => rfl) (fun j hj => (mu_ne (by omega)).symm) hE
  obtain ⟨v', w', n', h1, h2, h3, h4⟩ := me_add hE1 a b
  have hE2 : rEn n' v' (tm_up w' 1 4 x 1) := rEn_ext (fun _ _ _ => rfl) (fun j hj => mu_ne (by omega)) h3
  have h5 : mEf v (tm_up w 1 4 x) v' (tm_up w' 1 4 x) := by
    refine ⟨h4.1, fun c hc => ?_, fun j hj hj2 => ?_⟩
    · rw [tu_ne _ _ _ hc, tu_ne _ _ _ hc]; exact h4.2.1 c hc
    · rw [mu_if, mu_if]
      by_cases s : 1 = 1 ∧ j = 4
      · rw [if_pos s, if_pos s]
      · rw [if_neg s, if_neg s]; exact h4.2.2 j hj hj2
  exact ⟨v', w', h1, h2, me_rP hE2 h5 h, h4⟩
theorem ma_check {B : Nat} {v w : tmM} (h : rP B v (w 1)) {c : Nat} (hc : c < 15) (hd : v 0 0 = 1 ∨ v 0 0 = 2) (hn : ∀ n, rQn n v (w 1) → mFold (mHe v (nI c)) n 0 0 ≤ 0) : ∃ v' w', f_X4_compareSums (nI c) v = some ((), v') ∧ tm_cl (f_X8_sumOf 0 (nI c) w) (fun r6 v5 => tm_cl (f_X8_sumOf 1 (nI c) v5) fun r8 v7 => (if r6 = r8 then f_X8_checks_43 (nI c) 0 1 v7 else f_X8_checks_43 (nI c) 0 0 v7)) = some (0, w') ∧ rP B v' (w' 1) ∧ mFr v w v' w' := by
  have h0 := mr_sum h (c := c) (s := 0) hc (by decide)
  have h1 := mr_sum h (c := c) (s := 1) hc (by decide)
  obtain ⟨_, t4, _, _, _, u4, _⟩ := mz_cs h
  unfold f_X4_compareSums f_X8_checks_43 f_X8_checks_54
  rw [ms_cl (show f_X5_sumOf 0 (nI c) v = _ from h0.1), ms_cl (show f_X5_sumOf 1 (nI c) v = _ from h1.1), ms_cl (show f_X8_sumOf 0 (nI c) w = _ from h0.2), ms_cl (show f_X8_sumOf 1 (nI c) w = _ from h1.2)]
  simp only [mr_g4, mr_n4, tS_lt]
  have frw : ∀ (v1 : tmM) (w1 : tmM) (x : Int32), mEf (tm_up v 0 3 x) w v1 w1 → mFr v w v1 (tm_up w1 1 4 x) := fun v1 w1 x e => ⟨fun k hk => (e.fr.1 k hk).trans (tu_ne _ _ _ (by omega)), fun k hk => (tu_ne _ _ _ hk).trans (e.fr.2 k hk)⟩
  by_cases hs : mFold (mSm v 0) 4 (4 * c) 0 = mFold (mSm v 1) 4 (4 * c) 0
  · have z4 := mb_setI (m := 15) (c := c) (by decide) u4 (by omega)
    have c1 := mm_bits4 h (x := w 1 4 ||| (1 <<< (nI c &&& 31))) z4.1 (fun q => absurd q (mz_no03 h hd)) (fun n hq i hi a ha hw q => by
      rw [z4.2 _ (by omega), if_neg (mh_none hq (hn n hq) hi ha hw)]; exact q)
    obtain ⟨v1, w1, d1, d2, d3, d4⟩ := me_ev4 c1 4 (nI c)
    refine ⟨v1, tm_up w1 1 4 (w 1 4 ||| (1 <<< (nI c &&& 31))), ?_, ?_, d3, frw _ _ _ d4⟩
    · rw [if_pos hs, t4, ms_cl d1]
    · rw [if_pos hs, if_neg mr_10, ms_cl d2, if_neg mr_10, d4.2.2 4 (by omega) (by omega)]
  · have z4 := mb_clrI (N := 32768) (c := c) (by decide) u4 (by omega)
    have c1 := mm_bits4 h (x := w 1 4 &&& ((1 <<< (nI c &&& 31)) ^^^ (-1))) z4.1 (fun q => absurd q (mz_no03 h hd)) (fun n hq i hi a ha hw q => by
      rw [z4.2 _ (by omega)]
      by_cases s : a / 4 = c
      · exact if_pos s
      · rw [if_neg s]; exact q)
    obtain ⟨v1, w1, d1, d2, d3, d4⟩ := me_ev4 c1 5 (nI c)
    have e0 : v1 0 0 = v 0 0 := by rw [d4.1 0 0 (by omega) (by omega) (by omega), mu_ne (by omega)]
    have ec : ∀ k, (k = 1 ∨ k = 3 ∨ k = 4) → v1 k = v k := fun k hk => funext fun j => by rw [d4.1 k j (by omega) (by omega) (by omega), mu_ne (by omega)]
    have hf := mr_fst d3 hc
    have hne : ¬ mFind (fun k => mDf v1 k = 1) 4 (4 * c) = -1 := fun q => hs (by
      have := mr_eqsum hc q
      rw [mSm_fold (ec 1 (by omega)) (ec 3 (by omega)) (ec 4 (by omega)), mSm_fold (ec 1 (by omega)) (ec 3 (by omega)) (ec 4 (by omega))] at this
      exact this)
    rcases mFind_spec (fun k => mDf v1 k = 1) 4 (4 * c) with ⟨q, _⟩ | ⟨k, _, hk, q, _⟩
    · exact absurd q hne
    · rw [q] at hf
      obtain ⟨v2, w2, f1, f2, f3, f4, _⟩ := mm_stale d3 (k := k) (by omega) (by rw [e0]; exact hd)
      refine ⟨v2, w2, ?_, ?_, f3, (frw _ _ _ d4).trans f4⟩
      · rw [if_neg hs, t4, ms_cl d1, ms_cl hf.1, if_neg (mz_neg (by omega)), ms_cl f1]
      · rw [if_neg hs, if_pos trivial, ms_cl d2, if_pos trivial, d4.2.2 4 (by omega) (by omega), ms_cl hf.2, ms_cl f2]
theorem ma_over {B : Nat} {v w : tmM} (h : rP B v (w 1)) {c : Nat} (hc : c < 8) : ∃ v' w', f_X4_turnToNew (nI c) v = some ((), v') ∧ tm_cl (f_X8_notes 6 (nI c) (tm_up w 1 5 (w 1 5 ||| (1 <<< (nI c &&& 31))))) (fun _ v6 => some ((0 : Int32), v6)) = some (0, w') ∧ rP B v' (w' 1) ∧ mFr v w v' w' := by
  obtain ⟨_, _, t5, _, _, _, u5, _⟩ := mz_cs h
  have z5 := mb_setI (m := 8) (c := c) (by decide) u5 hc
  obtain ⟨v1, w1, d1, d2, d3, d4⟩ := me_ev (mm_bits5 h z5.1) 6 (nI c)
  refine ⟨v1, w1, ?_, ?_, d3, ((mFr.refl v w).up (by decide)).trans d4.fr⟩
  · unfold f_X4_turnToNew
    rw [tS_lt, t5, ms_cl d1]
  · rw [ms_cl d2]
theorem ma_back {B : Nat} {v w : tmM} (h : rP B v (w 1)) {c : Nat} (hc : c < 8) : ∃ v' w', f_X4_turnToOld (nI c) v = some ((), v') ∧ tm_cl (f_X8_notes 7 (nI c) (tm_up w 1 5 (w 1 5 &&& ((1 <<< (nI c &&& 31)) ^^^ (-1))))) (fun _ v6 => some ((0 : Int32), v6)) = some (0, w') ∧ rP B v' (w' 1) ∧ mFr v w v' w' := by
  obtain ⟨_, _, t5, _, _, _, u5, _⟩ := mz_cs h
  have z5 := mb_clrI (N := 256) (c := c) (by decide) u5 (by omega)
  obtain ⟨v1, w1, d1, d2, d3, d4⟩ := me_ev (mm_bits5 h z5.1) 7 (nI c)
  refine ⟨v1, w1, ?_, ?_, d3, ((mFr.refl v w).up (by decide)).trans d4.fr⟩
  · unfold f_X4_turnToOld
    rw [tS_lt, t5, ms_cl d1]
  · rw [ms_cl d2]
/-! copies -/
theorem mc_cstep (k1 k2 : Nat) (K0 : tmM → Option (Unit × tmM)) (F : Nat) {i : Nat} (hi : i < 2) (v : tmM) : f_X5_copyCells_2 k1 k2 K0 (F + 1) (nI i) v = f_X5_copyCells_2 k1 k2 K0 F (nI (i + 1)) (tm_set v (k2 + 1 + i) (va_cpy (v (k1 + 1 + i)) (v (k2 + 1 + i)) 0 0 60)) := by
  show f_X5_copyCells_2b _ _ _ _ (nI i) v = _
  unfold f_X5_copyCells_2b
  have e : ∀ k, ([(k + 1), (k + 2)] : List Nat).getD (nI i).toNatClampNeg 0 = k + 1 + i := fun k => by
    rcases (show i = 0 ∨ i = 1 by omega) with rfl | rfl <;> rfl
  rw [if_neg (show ¬ (2 : Int32) ≤ nI i from nI_ge (b := 2) hi (by decide)), ms_gi hi (by decide), tS_lt, e, ms_gi hi (by decide), tS_lt, e, ms_g (by decide), tS_lt, nI_1]
  rfl
theorem mc_60 {f g : Nat → Int32} {j : Nat} (hj : j < 60) : va_cpy f g 0 0 60 j = f j := by
  unfold va_cpy
  rw [if_pos (by omega), Nat.zero_add, Nat.sub_zero]
theorem mc_cells {k1 k2 : Nat} (hd : k1 + 2 ≤ k2 ∨ k2 + 2 ≤ k1) (v : tmM) : ∃ v', f_X5_copyCells k1 k2 v = some ((), v') ∧ (∀ j, j < 60 → v' (k2 + 1) j = v (k1 + 1) j ∧ v' (k2 + 2) j = v (k1 + 2) j) ∧ ∀ c, c ≠ k2 + 1 → c ≠ k2 + 2 → v' c = v c := by
  refine ⟨tm_set (tm_set v (k2 + 1) (va_cpy (v (k1 + 1)) (v (k2 + 1)) 0 0 60)) (k2 + 2) (va_cpy (v (k1 + 2)) (v (k2 + 2)) 0 0 60), ?_, ?_, ?_⟩
  · unfold f_X5_copyCells
    rw [show (0 : Int32) = nI 0 from rfl, mc_cstep k1 k2 _ 9999 (i := 0) (by decide), mc_cstep k1 k2 _ 9998 (i := 1) (by decide)]
    show some _ = some _
    rw [show k2 + 1 + 0 = k2 + 1 from rfl, show k1 + 1 + 0 = k1 + 1 from rfl, show k2 + 1 + (0 + 1) = k2 + 2 from rfl, show k1 + 1 + (0 + 1) = k1 + 2 from rfl, mt_ne (show k1 + 2 ≠ k2 + 1 by omega), mt_ne (show k2 + 2 ≠ k2 + 1 by omega)]
  · intro j hj
    rw [mt_ne (show k2 + 1 ≠ k2 + 2 by omega), mt_eq, mt_eq, mc_60 hj, mc_60 hj]
    exact ⟨rfl, rfl⟩
  · intro c a b
    rw [mt_ne b, mt_ne a]
def mCp (w : tmM) (k1 k2 a b n : Nat) : tmM := tm_set w k2 (fun j => if b ≤ j ∧ j < b + n then w k1 (a + (j - b)) else w k2 j)
theorem mCp_at (w : tmM) (k1 k2 a b n j : Nat) : mCp w k1 k2 a b n k2 j = if b ≤ j ∧ j < b + n then w k1 (a + (j - b)) else w k2 j := by
  unfold mCp
  rw [mt_eq]
theorem mCp_ne {w : tmM} {k1 k2 a b n c : Nat} (h : c ≠ k2) : mCp w k1 k2 a b n c = w c := mt_ne h
theorem mCp_0 (w : tmM) (k1 k2 a b : Nat) : mCp w k1 k2 a b 0 = w := by
  funext c j
  by_cases h : c = k2
  · subst h
    rw [mCp_at, if_neg (by omega)]
  · rw [mCp_ne h]
theorem mCp_step (w : tmM) (k1 k2 a b i : Nat) (h : k1 ≠ k2 ∨ a + i < b ∨ b + i ≤ a + i) : tm_up (mCp w k1 k2 a b i) k2 (b + i) (mCp w k1 k2 a b i k1 (a + i)) = mCp w k1 k2 a b (i + 1) := by
  have e : mCp w k1 k2 a b i k1 (a + i) = w k1 (a + i) := by
    by_cases q : k1 = k2
    · subst q
      rw [mCp_at, if_neg (by omega)]
    · rw [mCp_ne q]
  rw [e]
  funext c j
  by_cases q : c = k2
  · subst q
    rw [mu_if, mCp_at, mCp_at]
    by_cases s : j = b + i
    · rw [if_pos ⟨rfl, s⟩, if_pos (by omega), s]
      congr 1
      omega
    · rw [if_neg (by omega)]
      by_cases t : b ≤ j ∧ j < b + i
      · rw [if_pos t, if_pos (by omega)]
      · rw [if_neg t, if_neg (by omega)]
  · rw [tu_ne _ _ _ q, mCp_ne q, mCp_ne q]
theorem mc_copies {k1 l1 k2 l2 a b n : Nat} (h1 : a + n ≤ l1) (h2 : b + n ≤ l2) (hl1 : l1 < 100000) (hl2 : l2 < 100000) (hn : n < 1000) (hd : k1 ≠ k2 ∨ a + n ≤ b ∨ b ≤ a) (w : tmM) : f_X8_copies k1 l1 k2 l2 (nI a) (nI b) (nI n) w = some ((), mCp w k1 k2 a b n) := by
  have L : ∀ (d i F : Nat), d + i = n → d < F → f_X8_copies_3 k1 l1 k2 l2 (fun v2 => some ((), v2)) F (nI a) (nI b) (nI n) (nI i) (mCp w k1 k2 a b i) = some ((), mCp w k1 k2 a b n) := by
    intro d
    induction d with
    | zero =>
      intro i F hd2 hF
      obtain ⟨F, rfl⟩ : ∃ G, F = G + 1 := ⟨F - 1, by omega⟩
      show f_X8_copies_3b _ _ _ _ _ _ (nI a) (nI b) (nI n) (nI i) _ = _
      unfold f_X8_copies_3b
      rw [if_pos (nI_le (by omega) (by omega)), show i = n by omega]
    | succ d ih =>
      intro i F hd2 hF
      obtain ⟨F, rfl⟩ : ∃ G, F = G + 1 := ⟨F - 1, by omega⟩
      show f_X8_copies_3b _ _ _ _ _ _ (nI a) (nI b) (nI n) (nI i) _ = _
      unfold f_X8_copies_3b
      rw [if_neg (nI_ge (by omega) (by omega)), nI_add, nI_add, ms_gi (show a + i < l1 by omega) (by omega), ms_gi (show b + i < l2 by omega) (by omega), tS_lt, nI_clamp (by omega), nI_clamp (by omega), nI_1, mCp_step w k1 k2 a b i (by omega)]
      exact ih (i + 1) F (by omega) (by omega)
  have := L n 0 10000 (by omega) (by omega)
  rw [mCp_0] at this
  exact this
/-! lead -/
theorem ma_lead {B : Nat} {v w : tmM} (h : rP B v (w 1)) (h1 : v 0 0 = 1) : ∃ v' w', f_X4_letNewLead v = some ((), v') ∧ tm_cl (f_X8_copies 1 491 1 491 11 191 60 w) (fun _ v6 => tm_cl (f_X8_copies 1 491 1 491 71 251 60 v6) fun _ v8 => tm_g (tm_ix 8 491) (tm_lt (tm_up v8 1 (8 : Int32).toNatClampNeg 0) fun v10 => tm_g (tm_ix 9 491) (tm_lt (tm_up v10 1 (9 : Int32).toNatClampNeg 0) fun v11 => tm_cl (f_X8_becomesPhase 2 v11) fun _ v12 => some ((0 : Int32), v12)))) = some (0, w') ∧ rP B v' (w' 1) ∧ mFr v w v' w' := by
  obtain ⟨v1, a1, a2, a3⟩ := mc_cells (k1 := 2) (k2 := 5) (by omega) v
  have b1 : f_X8_copies 1 491 1 491 11 191 60 w = _ := mc_copies (k1 := 1) (l1 := 491) (k2 := 1) (l2 := 491) (a := 11) (b := 191) (n := 60) (by decide) (by decide) (by decide) (by decide) (by decide) (by omega) w
  generalize hw1 : mCp w 1 1 11 191 60 = w1 at b1
  have b2 : f_X8_copies 1 491 1 491 71 251 60 w1 = _ := mc_copies (k1 := 1) (l1 := 491) (k2 := 1) (l2 := 491) (a := 71) (b := 251) (n := 60) (by decide) (by decide) (by decide) (by decide) (by decide) (by omega) w1
  generalize hw2 : mCp w1 1 1 71 251 60 = w2 at b2
  have c1 : ∀ j, (j < 191 ∨ 251 ≤ j) → w1 1 j = w 1 j := fun j hj => by rw [← hw1, mCp_at, if_neg (by omega)]
  have c2 : ∀ j, (j < 251 ∨ 311 ≤ j) → w2 1 j = w1 1 j := fun j hj => by rw [← hw2, mCp_at, if_neg (by omega)]
  have c3 : ∀ k, k < 60 → w2 1 (191 + k) = w 1 (11 + k) := fun k hk => by
    rw [c2 _ (by omega), ← hw1, mCp_at, if_pos (by omega), Nat.add_sub_cancel_left]
  have c4 : ∀ k, k < 60 → w2 1 (251 + k) = w 1 (71 + k) := fun k hk => by
    rw [← hw2, mCp_at, if_pos (by omega), c1 _ (by omega), Nat.add_sub_cancel_left]
  have c5 : ∀ c, c ≠ 1 → w2 c = w c := fun c hc => by rw [← hw2, mCp_ne hc, ← hw1, mCp_ne hc]
  generalize hv2 : tm_up (tm_up v1 13 1 0) 0 0 2 = v2
  generalize hw3 : tm_up (tm_up (tm_up w2 1 8 0) 1 9 0) 1 0 2 = w3
  have ev : ∀ c j, ¬ (c = 13 ∧ j = 1) → ¬ (c = 0 ∧ j = 0) → c ≠ 6 → c ≠ 7 → v2 c j = v c j := fun c j p q r s => by rw [← hv2, mu_ne (by omega), mu_ne (by omega), a3 c r s]
  have ew : ∀ j, j ≠ 8 → j ≠ 9 → j ≠ 0 → (j < 191 ∨ 311 ≤ j) → w3 1 j = w 1 j := fun j p q r s => by rw [← hw3, mu_ne (by omega), mu_ne (by omega), mu_ne (by omega), c2 j (by omega), c1 j (by omega)]
  have hp := mr_phase h
  have hP : rP B v2 (w3 1) := by
    obtain ⟨⟨s1, s2, s3, s4, s5, s6, s7⟩, hT, hA, ⟨n, hQ⟩, ⟨e, hE⟩, hW, ⟨i1, i2, i3, i4, i5, i6, i7, i8⟩⟩ := h
    obtain ⟨t1, t2, t3⟩ := hT
    refine ⟨⟨?_, ?_, ?_, ?_, ?_, ?_, ?_⟩, rT_ext (fun c j hc _ => ev c j (by omega) (by omega) (by omega) (by omega)) (fun j hj => ew j (by omega) (by omega) (by omega) (by omega)) ⟨t1, t2, t3⟩, fun _ => ⟨fun k hk => ?_, fun k hk => ?_⟩, ⟨n, rQn_ext (fun c j hc => ev c j (by omega) (by omega) (by omega) (by omega)) (fun j hj => ew j (by omega) (by omega) (by omega) (by omega)) hQ⟩, ⟨e, rEn_ext (fun c j hc => ev c j (by omega) (by omega) (by omega) (by omega)) (fun j hj => ew j (by omega) (by omega) (by omega) (by omega)) hE⟩, fun _ => ⟨0, Nat.zero_le _, ?_, ?_, ?_, fun i hi => absurd hi (by omega)⟩, ?_⟩
    · rw [← hv2, mu_eq, ← hw3, mu_eq]
    · rw [ev 0 1 (by omega) (by omega) (by omega) (by omega), ew 6 (by omega) (by omega) (by omega) (by omega)]; exact s2
    · rw [ev 0 2 (by omega) (by omega) (by omega) (by omega), ew 3 (by omega) (by omega) (by omega) (by omega)]; exact s3
    · rw [ev 0 3 (by omega) (by omega) (by omega) (by omega), ew 4 (by omega) (by omega) (by omega) (by omega)]; exact s4
    · rw [ev 0 4 (by omega) (by omega) (by omega) (by omega), ew 5 (by omega) (by omega) (by omega) (by omega)]; exact s5
    · rw [ev 1 0 (by omega) (by omega) (by omega) (by omega), ew 1 (by omega) (by omega) (by omega) (by omega)]; exact s6
    · rw [ev 1 1 (by omega) (by omega) (by omega) (by omega), ew 2 (by omega) (by omega) (by omega) (by omega)]; exact s7
    · have e1 : w3 1 (191 + k) = w 1 (11 + k) := by rw [← hw3, mu_ne (by omega), mu_ne (by omega), mu_ne (by omega), c3 k hk]
      have e2 : v2 6 k = v 3 k := by rw [← hv2, mu_ne (by omega), mu_ne (by omega)]; exact (a2 k hk).1
      rw [e1, e2]
      exact ⟨t1 k hk, i7 k hk⟩
    · have e1 : w3 1 (251 + k) = w 1 (71 + k) := by rw [← hw3, mu_ne (by omega), mu_ne (by omega), mu_ne (by omega), c4 k hk]
      have e2 : v2 7 k = v 4 k := by rw [← hv2, mu_ne (by omega), mu_ne (by omega)]; exact (a2 k hk).2
      rw [e1, e2]
      exact t2 k hk
    · rw [← hv2, mu_ne (by omega), mu_eq]; rfl
    · rw [← hw3, mu_ne (by omega), mu_ne (by omega), mu_eq]; rfl
    · rw [← hw3, mu_ne (by omega), mu_eq]; rfl
    · refine ⟨?_, ?_, ?_, ?_, ?_, ?_, fun k hk => ?_, fun q => ?_⟩
      · rw [← hw3, mu_eq]; exact Or.inr (Or.inr (Or.inl rfl))
      · rw [ew 6 (by omega) (by omega) (by omega) (by omega)]; exact i2
      · rw [ew 3 (by omega) (by omega) (by omega) (by omega)]; exact i3
      · rw [ew 4 (by omega) (by omega) (by omega) (by omega)]; exact i4
      · rw [ew 5 (by omega) (by omega) (by omega) (by omega)]; exact i5
      · rw [ew 1 (by omega) (by omega) (by omega) (by omega), ew 2 (by omega) (by omega) (by omega) (by omega)]; exact i6
      · rw [ew _ (by omega) (by omega) (by omega) (by omega)]; exact i7 k hk
      · rw [← hw3, mu_eq] at q
        rcases q with q | q <;> exact absurd q (by decide)
  obtain ⟨v', w', f1, f2, f3, f4⟩ := mm_enter (v := tm_up v1 13 1 0) (w := tm_up (tm_up w2 1 8 0) 1 9 0) (p := 2) (by rw [hv2, hw3]; exact hP)
  refine ⟨v', w', ?_, ?_, f3, mFr.trans ⟨fun c hc => ?_, fun c hc => ?_⟩ f4⟩
  · unfold f_X4_letNewLead f_X5_keepAside f_X6_clear
    rw [a1, tS_cl, tS_cl, tS_lt, tS_cl, ms_cl f1]
  · rw [b1, tS_cl, b2, tS_cl, mr_g8, tS_lt, mr_g9, tS_lt, mr_n8, mr_n9, ms_cl f2]
  · rw [tu_ne _ _ _ (by omega), a3 c (by omega) (by omega)]
  · rw [tu_ne _ _ _ hc, tu_ne _ _ _ hc, c5 c hc]
/-! the old table leads again -/
theorem ma_old {B : Nat} {v w : tmM} (h : rP B v (w 1)) : ∃ v' w', f_X4_letOldLead v = some ((), v') ∧ f_X8_goesBack_71 0 w = some (0, w') ∧ rP B v' (w' 1) ∧ mFr v w v' w' := by
  have h1 := mm_bits4 h (x := 0) ⟨0, by decide, rfl⟩ (fun _ => rfl) (fun n _ i _ a _ _ _ => by rw [show (0 : Int32) = nI 0 from rfl, mb_has (by decide) (by omega)]; simp; rfl)
  have h2 := mm_phase h1 (p := 1) (Or.inr (Or.inl rfl)) (fun q => by rcases q with q | q <;> exact absurd q (by decide))
  obtain ⟨v', w', a1, a2, a3, a4⟩ := mm_enter h2
  refine ⟨v', w', ?_, ?_, a3, ((mFr.refl v w).up (by decide)).trans a4⟩
  · unfold f_X4_letOldLead
    rw [tS_lt, ms_cl a1]
  · unfold f_X8_goesBack_71
    rw [mr_g4, tS_lt, mr_n4, ms_cl a2]
/-- what was set aside comes back -/
theorem ma_take {B : Nat} {v w : tmM} (h : rP B v (w 1)) (h2 : v 0 0 = 2) : ∃ v' w', f_X4_forgetSinceLead v = some ((), v') ∧ (∀ K : tmM → Option (Int32 × tmM), tm_cl (f_X8_copies 1 491 1 491 191 11 60 w) (fun _ v8 => tm_cl (f_X8_copies 1 491 1 491 251 71 60 v8) fun _ v10 => tm_g (tm_ix 7 491) (tm_lt (tm_up v10 1 (7 : Int32).toNatClampNeg 0) fun v12 => K v12)) = K w') ∧ rP B v' (w' 1) ∧ mFr v w v' w' := by
  obtain ⟨v1, a1, a2, a3⟩ := mc_cells (k1 := 5) (k2 := 2) (by omega) v
  have b1 : f_X8_copies 1 491 1 491 191 11 60 w = _ := mc_copies (k1 := 1) (l1 := 491) (k2 := 1) (l2 := 491) (a := 191) (b := 11) (n := 60) (by decide) (by decide) (by decide) (by decide) (by decide) (by omega) w
  generalize hw1 : mCp w 1 1 191 11 60 = w1 at b1
  have b2 : f_X8_copies 1 491 1 491 251 71 60 w1 = _ := mc_copies (k1 := 1) (l1 := 491) (k2 := 1) (l2 := 491) (a := 251) (b := 71) (n := 60) (by decide) (by decide) (by decide) (by decide) (by decide) (by omega) w1
  generalize hw2 : mCp w1 1 1 251 71 60 = w2 at b2
  have c1 : ∀ j, (j < 11 ∨ 71 ≤ j) → w1 1 j = w 1 j := fun j hj => by rw [← hw1, mCp_at, if_neg (by omega)]
  have c2 : ∀ j, (j < 71 ∨ 131 ≤ j) → w2 1 j = w1 1 j := fun j hj => by rw [← hw2, mCp_at, if_neg (by omega)]
  have c3 : ∀ k, k < 60 → w2 1 (11 + k) = w 1 (191 + k) := fun k hk => by
    rw [c2 _ (by omega), ← hw1, mCp_at, if_pos (by omega), Nat.add_sub_cancel_left]
  have c4 : ∀ k, k < 60 → w2 1 (71 + k) = w 1 (251 + k) := fun k hk => by
    rw [← hw2, mCp_at, if_pos (by omega), c1 _ (by omega), Nat.add_sub_cancel_left]
  have c5 : ∀ c, c ≠ 1 → w2 c = w c := fun c hc => by rw [← hw2, mCp_ne hc, ← hw1, mCp_ne hc]
  have ev : ∀ c j, c ≠ 3 → c ≠ 4 → v1 c j = v c j := fun c j r s => by rw [a3 c r s]
  have ew : ∀ j, (j < 11 ∨ 131 ≤ j) → w2 1 j = w 1 j := fun j s => by rw [c2 j (by omega), c1 j (by omega)]
  have hp := mr_phase h
  have hP : rP B v1 (w2 1) := by
    obtain ⟨hS, ⟨t1, t2, t3⟩, hA, ⟨n, hQ⟩, ⟨e, hE⟩, hW, ⟨i1, i2, i3, i4, i5, i6, i7, i8⟩⟩ := h
    obtain ⟨d1, d2⟩ := hA (hp.1.symm.trans h2)
    refine ⟨rS_ext (fun c j hc => ev c j (by omega) (by omega)) (fun j hj => ew j (by omega)) hS, ⟨fun k hk => ?_, fun k hk => ?_, fun k hk => ?_⟩, rA_ext (fun c j hc _ => ev c j (by omega) (by omega)) (fun j hj => ew j (by omega)) hA, ⟨n, rQn_ext (fun c j hc => ev c j (by omega) (by omega)) (fun j hj => ew j (by omega)) hQ⟩, ⟨e, rEn_ext (fun c j hc => ev c j (by omega) (by omega)) (fun j hj => ew j (by omega)) hE⟩, rW_ext (fun c j hc => ev c j (by omega) (by omega)) (fun j hj => ew j (by omega)) hW, ?_⟩
    · rw [c3 k hk]; exact (a2 k hk).1.trans (d1 k hk).1
    · rw [c4 k hk]; exact (a2 k hk).2.trans (d2 k hk)
    · rw [ev 18 k (by omega) (by omega), ew _ (by omega)]; exact t3 k hk
    · refine ⟨?_, ?_, ?_, ?_, ?_, ?_, fun k hk => ?_, fun q => ?_⟩
      · rw [ew 0 (by omega)]; exact i1
      · rw [ew 6 (by omega)]; exact i2
      · rw [ew 3 (by omega)]; exact i3
      · rw [ew 4 (by omega)]; exact i4
      · rw [ew 5 (by omega)]; exact i5
      · rw [ew 1 (by omega), ew 2 (by omega)]; exact i6
      · rw [c3 k hk]; exact (d1 k hk).2
      · rw [ew 0 (by omega)] at q
        rw [ew 7 (by omega), ew 3 (by omega), ew 4 (by omega)]
        exact i8 q
  refine ⟨tm_up v1 8 1 0, tm_up w2 1 7 0, ?_, fun K => ?_, mm_q0 hP, mFr.trans ⟨fun c hc => a3 c (by omega) (by omega), c5⟩ ((mFr.refl v1 w2).up (by decide))⟩
  · unfold f_X4_forgetSinceLead f_X5_takeBack f_X2_clear
    rw [a1, tS_cl, tS_cl, tS_lt, tS_cl]
  · rw [b1, tS_cl, b2, tS_cl, mr_g7, tS_lt, mr_n7]
