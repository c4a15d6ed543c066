/-! ===== THE RELATION OF ALL ===== -/
def mBk (v : tmM) (b : Nat) : tmM := fun c => v (b + c)
def mHP (B : Nat) (v w : tmM) (o n : Nat) : Prop := o < 10 ∧ n ≤ 10 ∧ v 247 2 = nI o ∧ v 247 3 = nI n ∧ w 0 3 = nI n ∧ ∀ i, i < n → rP B (mBk v (19 * ((o + i) % 10 + 1))) (fun j => w 2 (491 * i + j))
def gH (B : Nat) (v w : tmM) : Prop := ∃ o n, mHP B v w o n
def gS (B : Nat) (v w : tmM) : Prop := ∃ m, m < 4 ∧ v 247 5 = nI m ∧ ∀ s, s < 2 → w 4 s = mHas (nI m) (nI s) ∧ (mHas (nI m) (nI s) = 1 → rP B (mBk v (209 + 19 * s)) (fun j => w 3 (491 * s + j)))
def gA (v w : tmM) : Prop := ∀ i, i < 10 → v 250 i = w 5 i
def mByt (x : Int32) : Prop := -128 ≤ x.toInt ∧ x.toInt < 128
def gT (v w : tmM) : Prop := (∃ t, t ≤ 600 ∧ v 251 1 = nI t ∧ w 0 16 = nI t ∧ ∀ i, i < t → v 252 i = w 8 i &&& 255 ∧ mByt (w 8 i)) ∧ v 251 6 = w 0 21 ∧ v 251 7 = w 0 22
def gO (bs : List Int32) (w : tmM) : Prop := w 0 13 = nI bs.length ∧ bs.length ≤ 95 ∧ ∀ i, i < bs.length → w 6 i = bs.getD i 0
def gC (w : tmM) : Prop := (∀ i, i < 15 → w 7 i = tn_signs.getD i 0) ∧ ∀ i, i < 79 → w 9 i = tn_words.getD i 0
def mG (B : Nat) (v : tmM) (bs : List Int32) (w : tmM) : Prop := rP B v (w 1) ∧ gH B v w ∧ gS B v w ∧ gA v w ∧ gT v w ∧ gO bs w ∧ gC w
theorem gH_ext {B B' : Nat} (hB : B ≤ B') {v w v' w' : tmM} (h1 : ∀ c, 19 ≤ c → c < 209 → v' c = v c) (h2 : v' 247 2 = v 247 2) (h3 : v' 247 3 = v 247 3) (h4 : w' 0 3 = w 0 3) (h5 : w' 2 = w 2) (h : gH B v w) : gH B' v' w' := by
  obtain ⟨o, n, a1, a2, a3, a4, a5, a6⟩ := h
  refine ⟨o, n, a1, a2, h2.trans a3, h3.trans a4, h4.trans a5, fun i hi => ?_⟩
  refine rP_mono hB (rP_ext (fun c j hc => ?_) (fun j hj => ?_) (a6 i hi))
  · have hc19 : c < 19 := by unfold mU at hc; omega
    show v' (19 * ((o + i) % 10 + 1) + c) j = v (19 * ((o + i) % 10 + 1) + c) j
    rw [h1 _ (by omega) (by omega)]
  · rw [h5]
theorem gS_ext {B B' : Nat} (hB : B ≤ B') {v w v' w' : tmM} (h1 : ∀ c, 209 ≤ c → c < 247 → v' c = v c) (h2 : v' 247 5 = v 247 5) (h4 : w' 4 = w 4) (h5 : w' 3 = w 3) (h : gS B v w) : gS B' v' w' := by
  obtain ⟨m, a1, a2, a3⟩ := h
  refine ⟨m, a1, h2.trans a2, fun s hs => ⟨by rw [h4]; exact (a3 s hs).1, fun q => ?_⟩⟩
  refine rP_mono hB (rP_ext (fun c j hc => ?_) (fun j hj => ?_) ((a3 s hs).2 q))
  · have hc19 : c < 19 := by unfold mU at hc; omega
    show v' (209 + 19 * s + c) j = v (209 + 19 * s + c) j
    rw [h1 _ (by omega) (by omega)]
  · rw [h5]
theorem gA_ext {v w v' w' : tmM} (h1 : v' 250 = v 250) (h2 : w' 5 = w 5) (h : gA v w) : gA v' w' := fun i hi => by rw [h1, h2]; exact h i hi
theorem gT_ext {v w v' w' : tmM} (h1 : v' 251 = v 251) (h2 : v' 252 = v 252) (h3 : w' 8 = w 8) (h4 : w' 0 16 = w 0 16) (h5 : w' 0 21 = w 0 21) (h6 : w' 0 22 = w 0 22) (h : gT v w) : gT v' w' := by
  obtain ⟨⟨t, a1, a2, a3, a4⟩, a5, a6⟩ := h
  exact ⟨⟨t, a1, by rw [h1]; exact a2, h4.trans a3, fun i hi => by rw [h2, h3]; exact a4 i hi⟩, by rw [h1, h5]; exact a5, by rw [h1, h6]; exact a6⟩
theorem gO_ext {bs : List Int32} {w w' : tmM} (h1 : w' 0 13 = w 0 13) (h2 : w' 6 = w 6) (h : gO bs w) : gO bs w' := ⟨h1.trans h.1, h.2.1, fun i hi => by rw [h2]; exact h.2.2 i hi⟩
theorem gC_ext {w w' : tmM} (h1 : w' 7 = w 7) (h2 : w' 9 = w 9) (h : gC w) : gC w' := ⟨fun i hi => by rw [h1]; exact h.1 i hi, fun i hi => by rw [h2]; exact h.2 i hi⟩
/-- a step of the state -/
theorem mG_step {B B' : Nat} (hB : B ≤ B') {v w v' w' : tmM} {bs : List Int32} (h : mG B v bs w) (hf : mFr v w v' w') (hP : rP B' v' (w' 1)) : mG B' v' bs w' := by
  obtain ⟨_, h2, h3, h4, h5, h6, h7⟩ := h
  have e0 : w' 0 = w 0 := hf.2 0 (by decide)
  exact ⟨hP, gH_ext hB (fun c a _ => hf.1 c a) (by rw [hf.1 247 (by decide)]) (by rw [hf.1 247 (by decide)]) (by rw [e0]) (hf.2 2 (by decide)) h2, gS_ext hB (fun c a _ => hf.1 c (by omega)) (by rw [hf.1 247 (by decide)]) (hf.2 4 (by decide)) (hf.2 3 (by decide)) h3, gA_ext (hf.1 250 (by decide)) (hf.2 5 (by decide)) h4, gT_ext (hf.1 251 (by decide)) (hf.1 252 (by decide)) (hf.2 8 (by decide)) (by rw [e0]) (by rw [e0]) (by rw [e0]) h5, gO_ext (by rw [e0]) (hf.2 6 (by decide)) h6, gC_ext (hf.2 7 (by decide)) (hf.2 9 (by decide)) h7⟩
theorem mG_mono {B B' : Nat} (hB : B ≤ B') {v w : tmM} {bs : List Int32} (h : mG B v bs w) : mG B' v bs w := mG_step hB h (mFr.refl v w) (rP_mono hB h.1)
/-- a register of the reference's -/
theorem mG_reg {B : Nat} {v w : tmM} {bs : List Int32} (h : mG B v bs w) {j : Nat} (hj : j ≠ 3 ∧ j ≠ 13 ∧ j ≠ 16 ∧ j ≠ 21 ∧ j ≠ 22) (x : Int32) : mG B v bs (tm_up w 0 j x) := by
  obtain ⟨h1, h2, h3, h4, h5, h6, h7⟩ := h
  have e : ∀ c, c ≠ 0 → tm_up w 0 j x c = w c := fun c hc => tu_ne _ _ _ hc
  refine ⟨by rw [e 1 (by decide)]; exact h1, gH_ext (Nat.le_refl B) (fun _ _ _ => rfl) rfl rfl (mu_ne (by omega)) (e 2 (by decide)) h2, gS_ext (Nat.le_refl B) (fun _ _ _ => rfl) rfl (e 4 (by decide)) (e 3 (by decide)) h3, gA_ext rfl (e 5 (by decide)) h4, gT_ext rfl rfl (e 8 (by decide)) (mu_ne (by omega)) (mu_ne (by omega)) (mu_ne (by omega)) h5, gO_ext (mu_ne (by omega)) (e 6 (by decide)) h6, gC_ext (e 7 (by decide)) (e 9 (by decide)) h7⟩
/-! history -/
theorem mz_ring {k : Nat} (hk : k < 10) : ([19, 38, 57, 76, 95, 114, 133, 152, 171, 190] : List Nat).getD k 0 = 19 * (k + 1) := by
  have : ∀ k, k < 10 → ([19, 38, 57, 76, 95, 114, 133, 152, 171, 190] : List Nat).getD k 0 = 19 * (k + 1) := by decide
  exact this k hk
theorem mk_loop (K0 : tmM → Option (Unit × tmM)) : ∀ (d i F : Nat) (w : tmM), d + i = 4419 → d < F → f_X8_keeps_11 K0 F (nI i) w = K0 (mSh w 2 i 4419 491) := by
  intro d
  induction d with
  | zero =>
    intro i F w hd hF
    obtain ⟨F, rfl⟩ : ∃ G, F = G + 1 := ⟨F - 1, by omega⟩
    show f_X8_keeps_11b _ _ (nI i) w = _
    unfold f_X8_keeps_11b
    rw [if_pos (show (4419 : Int32) ≤ nI i from nI_le (a := 4419) (by omega) (by omega)), show i = 4419 by omega, mSh_end]
  | succ d ih =>
    intro i F w hd hF
    obtain ⟨F, rfl⟩ : ∃ G, F = G + 1 := ⟨F - 1, by omega⟩
    show f_X8_keeps_11b _ _ (nI i) w = _
    unfold f_X8_keeps_11b
    rw [if_neg (show ¬ (4419 : Int32) ≤ nI i from nI_ge (b := 4419) (by omega) (by decide)), show nI i + 491 = nI (i + 491) from nI_add i 491, ms_gi (show i + 491 < 4910 by omega) (by decide), ms_gi (show i < 4910 by omega) (by decide), tS_lt, nI_clamp (by omega), nI_clamp (by omega), nI_1, ih (i + 1) F _ (by omega) (by omega), mSh_step w 2 i 4419 491 (by omega) (by decide)]
/-- what remembering leaves -/
def mKp (v w v' w' : tmM) : Prop := (∀ c, (c < 19 ∨ (209 ≤ c ∧ c ≠ 247)) → v' c = v c) ∧ (∀ j, j ≠ 2 → j ≠ 3 → v' 247 j = v 247 j) ∧ (∀ c, c ≠ 0 → c ≠ 2 → w' c = w c) ∧ ∀ j, j ≠ 3 → w' 0 j = w 0 j
theorem mk_rem1 {B o n : Nat} {v w : tmM} (hP : rP B v (w 1)) (h : mHP B v w o n) (hn : n ≤ 9) : ∃ v' w', f_X7_remember_32 v = some ((), v') ∧ f_X8_keeps_50 w = some ((), w') ∧ mHP B v' w' o (n + 1) ∧ mKp v w v' w' := by
  obtain ⟨a1, a2, a3, a4, a5, a6⟩ := h
  have hr : nI (o + n) - nI (o + n) / 10 * 10 = nI ((o + n) % 10) := pk_rem (d := 10) (by omega) (by decide) (by decide)
  obtain ⟨v1, b1, b2, b3⟩ := mc_become (k1 := 19 * ((o + n) % 10 + 1)) (k2 := 0) (by omega) v
  have c1 := mc_copies (k1 := 1) (l1 := 491) (k2 := 2) (l2 := 4910) (a := 0) (b := 491 * n) (n := 491) (by omega) (by omega) (by decide) (by decide) (by decide) (by omega) w
  refine ⟨tm_up v1 247 3 (nI (n + 1)), tm_up (mCp w 1 2 0 (491 * n) 491) 0 3 (nI (n + 1)), ?_, ?_, ⟨a1, by omega, ?_, mu_eq _ _ _ _, mu_eq _ _ _ _, fun i hi => ?_⟩, ⟨fun c hc => ?_, fun j h2 h3 => ?_, fun c h2 h3 => ?_, fun j h3 => ?_⟩⟩
  · unfold f_X7_remember_32
    rw [a3, a4, nI_add, ms_gd (by decide), hr, ms_gi (show (o + n) % 10 < 10 by omega) (by decide), tS_lt, nI_clamp (by omega), mz_ring (by omega), ms_cl b1, tS_lt, b3 247 (by omega), a4, nI_1]
  · unfold f_X8_keeps_50
    rw [a5, show (491 : Int32) * nI n = nI (491 * n) from pk_mul 491 n, ms_cl (show f_X8_copies 1 491 2 4910 0 (nI (491 * n)) 491 w = _ from c1), tS_lt, mCp_ne (by decide), a5, nI_1]
  · rw [mu_ne (by omega), b3 247 (by omega)]; exact a3
  · by_cases q : i = n
    · subst q
      refine rP_ext (fun c j hc => ?_) (fun j hj => ?_) hP
      · have hc19 : c < 19 := by unfold mU at hc; omega
        show tm_up v1 247 3 (nI (i + 1)) (19 * ((o + i) % 10 + 1) + c) j = v c j
        rw [mu_ne (by omega), b2 c j hc, Nat.zero_add]
      · show tm_up (mCp w 1 2 0 (491 * i) 491) 0 3 (nI (i + 1)) 2 (491 * i + j) = w 1 j
        rw [mu_ne (by omega), mCp_at, if_pos (by omega), Nat.zero_add, Nat.add_sub_cancel_left]
    · refine rP_ext (fun c j hc => ?_) (fun j hj => ?_) (a6 i (by omega))
      · have hc19 : c < 19 := by unfold mU at hc; omega
        show tm_up v1 247 3 (nI (n + 1)) (19 * ((o + i) % 10 + 1) + c) j = v (19 * ((o + i) % 10 + 1) + c) j
        rw [mu_ne (by omega), b3 _ (by omega)]
      · show tm_up (mCp w 1 2 0 (491 * n) 491) 0 3 (nI (n + 1)) 2 (491 * i + j) = w 2 (491 * i + j)
        rw [mu_ne (by omega), mCp_at, if_neg (by omega)]
  · rw [tu_ne _ _ _ (by omega), b3 c (by omega)]
  · rw [mu_ne (by omega), b3 247 (by omega)]
  · rw [tu_ne _ _ _ h2, mCp_ne h3]
  · rw [mu_ne (by omega), mCp_ne (by decide)]
theorem mk_rem {B : Nat} {v w : tmM} (hP : rP B v (w 1)) (h : gH B v w) : ∃ v' w', f_X7_remember v = some ((), v') ∧ f_X8_keeps w = some ((), w') ∧ gH B v' w' ∧ mKp v w v' w' := by
  obtain ⟨o, n, h⟩ := h
  by_cases hn : n ≤ 9
  · obtain ⟨v', w', b1, b2, b3, b4⟩ := mk_rem1 hP h hn
    have e : ¬ nI n = 10 := fun q => by have := (nI_eq (a := n) (b := 10) (by omega) (by decide)).mp q; omega
    refine ⟨v', w', ?_, ?_, ⟨o, n + 1, b3⟩, b4⟩
    · unfold f_X7_remember
      rw [h.2.2.2.1, if_neg e, b1]
    · unfold f_X8_keeps
      rw [h.2.2.2.2.1, if_neg e, b2]
  · obtain ⟨a1, a2, a3, a4, a5, a6⟩ := h
    have h10 : n = 10 := by omega
    subst h10
    generalize hv1 : tm_up (tm_up v 247 2 (nI ((o + 1) % 10))) 247 3 (nI 9) = v1
    generalize hw1 : tm_up (mSh w 2 0 4419 491) 0 3 (nI 9) = w1
    have ev : ∀ c, c ≠ 247 → v1 c = v c := fun c hc => by rw [← hv1, tu_ne _ _ _ hc, tu_ne _ _ _ hc]
    have ew : ∀ c, c ≠ 0 → c ≠ 2 → w1 c = w c := fun c hc h2 => by rw [← hw1, tu_ne _ _ _ hc, mSh_ne h2]
    have hP1 : rP B v1 (w1 1) := by
      rw [ew 1 (by decide) (by decide)]
      exact rP_ext (fun c j hc => by rw [ev c (by unfold mU at hc; omega)]) (fun _ _ => rfl) hP
    have hr : nI (o + 1) - nI (o + 1) / 10 * 10 = nI ((o + 1) % 10) := pk_rem (d := 10) (by omega) (by decide) (by decide)
    have h9 : mHP B v1 w1 ((o + 1) % 10) 9 := by
      refine ⟨by omega, by omega, ?_, ?_, ?_, fun i hi => ?_⟩
      · rw [← hv1, mu_ne (by omega), mu_eq]
      · rw [← hv1, mu_eq]
      · rw [← hw1, mu_eq]
      · have := a6 (i + 1) (by omega)
        refine rP_ext (fun c j hc => ?_) (fun j hj => ?_) this
        · have hc19 : c < 19 := by unfold mU at hc; omega
          show v1 (19 * (((o + 1) % 10 + i) % 10 + 1) + c) j = v (19 * ((o + (i + 1)) % 10 + 1) + c) j
          rw [ev _ (by omega), show ((o + 1) % 10 + i) % 10 = (o + (i + 1)) % 10 by omega]
        · show w1 2 (491 * i + j) = w 2 (491 * (i + 1) + j)
          rw [← hw1, mu_ne (by omega), mSh_at, if_pos (by omega), show 491 * i + j + 491 = 491 * (i + 1) + j by omega]
    obtain ⟨v', w', b1, b2, b3, b4, b5, b6, b7⟩ := mk_rem1 hP1 h9 (by decide)
    refine ⟨v', w', ?_, ?_, ⟨_, _, b3⟩, ⟨fun c hc => ?_, fun j h2 h3 => ?_, fun c h2 h3 => ?_, fun j h3 => ?_⟩⟩
    · unfold f_X7_remember
      rw [a4, if_pos (show nI 10 = 10 from rfl), ms_gd (by decide), tS_lt, a3, nI_1, hr, tS_lt, mu_ne (by omega), a4, show nI 10 - 1 = nI 9 from rfl, hv1, b1]
    · unfold f_X8_keeps
      rw [a5, if_pos (show nI 10 = 10 from rfl), show (0 : Int32) = nI 0 from rfl, mk_loop _ 4419 0 10000 w rfl (by decide), tS_lt, mSh_ne (by decide), a5, show nI 10 - 1 = nI 9 from rfl, hw1, b2]
    · rw [b4 c hc, ev c (by omega)]
    · rw [b5 j h2 h3, ← hv1, mu_ne (by omega), mu_ne (by omega)]
    · rw [b6 c h2 h3, ew c h2 h3]
    · rw [b7 j h3, ← hw1, mu_ne (by omega), mSh_ne (by decide)]
/-- remembering keeps the relation -/
theorem mG_rem {B : Nat} {v w : tmM} {bs : List Int32} (h : mG B v bs w) : ∃ v' w', f_X7_remember v = some ((), v') ∧ f_X8_keeps w = some ((), w') ∧ mG B v' bs w' ∧ mKp v w v' w' := by
  obtain ⟨h1, h2, h3, h4, h5, h6, h7⟩ := h
  obtain ⟨v', w', b1, b2, b3, b4⟩ := mk_rem h1 h2
  have b4' := b4
  obtain ⟨c1, c2, c3, c4⟩ := b4'
  refine ⟨v', w', b1, b2, ⟨?_, b3, gS_ext (Nat.le_refl B) (fun c x y => c1 c (by omega)) (c2 5 (by decide) (by decide)) (c3 4 (by decide) (by decide)) (c3 3 (by decide) (by decide)) h3, gA_ext (c1 250 (by omega)) (c3 5 (by decide) (by decide)) h4, gT_ext (c1 251 (by omega)) (c1 252 (by omega)) (c3 8 (by decide) (by decide)) (c4 16 (by decide)) (c4 21 (by decide)) (c4 22 (by decide)) h5, gO_ext (c4 13 (by decide)) (c3 6 (by decide) (by decide)) h6, gC_ext (c3 7 (by decide) (by decide)) (c3 9 (by decide) (by decide)) h7⟩, b4⟩
  rw [c3 1 (by decide) (by decide)]
  exact rP_ext (fun c j hc => by rw [c1 c (by unfold mU at hc; omega)]) (fun _ _ => rfl) h1
/-! accounts -/
theorem mG_acc {B : Nat} {v w : tmM} {bs : List Int32} (h : mG B v bs w) {k : Nat} (hk : k < 10) : mG B (tm_up v 250 k (v 250 k + 1)) bs (tm_up w 5 k (w 5 k + 1)) := by
  obtain ⟨h1, h2, h3, h4, h5, h6, h7⟩ := h
  have ev : ∀ c, c ≠ 250 → tm_up v 250 k (v 250 k + 1) c = v c := fun c hc => tu_ne _ _ _ hc
  have ew : ∀ c, c ≠ 5 → tm_up w 5 k (w 5 k + 1) c = w c := fun c hc => tu_ne _ _ _ hc
  have e0 := ew 0 (by decide)
  refine ⟨?_, gH_ext (Nat.le_refl B) (fun c _ _ => ev c (by omega)) (by rw [ev 247 (by decide)]) (by rw [ev 247 (by decide)]) (by rw [e0]) (ew 2 (by decide)) h2, gS_ext (Nat.le_refl B) (fun c _ _ => ev c (by omega)) (by rw [ev 247 (by decide)]) (ew 4 (by decide)) (ew 3 (by decide)) h3, fun i hi => ?_, gT_ext (ev 251 (by decide)) (ev 252 (by decide)) (ew 8 (by decide)) (by rw [e0]) (by rw [e0]) (by rw [e0]) h5, gO_ext (by rw [e0]) (ew 6 (by decide)) h6, gC_ext (ew 7 (by decide)) (ew 9 (by decide)) h7⟩
  · rw [ew 1 (by decide)]
    exact rP_ext (fun c j hc => by rw [ev c (by unfold mU at hc; omega)]) (fun _ _ => rfl) h1
  · rw [mu_if, mu_if]
    by_cases q : i = k
    · rw [if_pos ⟨rfl, q⟩, if_pos ⟨rfl, q⟩, h4 k hk]
    · rw [if_neg (by omega), if_neg (by omega)]; exact h4 i hi
