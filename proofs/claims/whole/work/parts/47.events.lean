/-! ===== rows that move down; events ===== -/
def mSh (w : tmM) (a i N s : Nat) : tmM := tm_set w a (fun j => if i ≤ j ∧ j < N then w a (j + s) else w a j)
theorem mSh_end (w : tmM) (a N s : Nat) : mSh w a N N s = w := by
  funext c j
  unfold mSh
  by_cases h : c = a
  · subst h
    rw [mt_eq, if_neg (by omega)]
  · rw [mt_ne h]
theorem mSh_step (w : tmM) (a i N s : Nat) (hi : i < N) (hs : 0 < s) : mSh (tm_up w a i (w a (i + s))) a (i + 1) N s = mSh w a i N s := by
  funext c j
  unfold mSh
  by_cases h : c = a
  · subst h
    rw [mt_eq, mt_eq]
    by_cases h1 : i + 1 ≤ j ∧ j < N
    · rw [if_pos h1, if_pos (by omega), mu_ne (by omega)]
    · rw [if_neg h1]
      by_cases h2 : j = i
      · subst h2
        rw [mu_eq, if_pos (by omega)]
      · rw [mu_ne (by omega), if_neg (by omega)]
  · rw [mt_ne h, mt_ne h, tu_ne _ _ _ h]
theorem mSh_at (w : tmM) (a i N s j : Nat) : mSh w a i N s a j = if i ≤ j ∧ j < N then w a (j + s) else w a j := by
  unfold mSh
  rw [mt_eq]
theorem mSh_ne {w : tmM} {a i N s c : Nat} (h : c ≠ a) : mSh w a i N s c = w c := mt_ne h
theorem me_shift (x1 x2 : Int32) (K0 : Int32 → Int32 → tmM → Option (Unit × tmM)) (w : tmM) : f_X8_notes_16 K0 10000 x1 x2 371 w = K0 x1 x2 (mSh w 1 371 429 2) := by
  have L : ∀ (d i F : Nat) (w : tmM), d + i = 429 → d < F → f_X8_notes_16 K0 F x1 x2 (nI i) w = K0 x1 x2 (mSh w 1 i 429 2) := by
    intro d
    induction d with
    | zero =>
      intro i F w hd hF
      obtain ⟨F, rfl⟩ : ∃ G, F = G + 1 := ⟨F - 1, by omega⟩
      show f_X8_notes_16b _ _ x1 x2 (nI i) w = _
      unfold f_X8_notes_16b
      rw [if_pos (show (429 : Int32) ≤ nI i from nI_le (a := 429) (by omega) (by omega)), show i = 429 by omega, mSh_end]
    | succ d ih =>
      intro i F w hd hF
      obtain ⟨F, rfl⟩ : ∃ G, F = G + 1 := ⟨F - 1, by omega⟩
      show f_X8_notes_16b _ _ x1 x2 (nI i) w = _
      unfold f_X8_notes_16b
      rw [if_neg (show ¬ (429 : Int32) ≤ nI i from nI_ge (b := 429) (by omega) (by decide)), show nI i + 2 = nI (i + 2) from nI_add i 2, ms_gi (show i + 2 < 491 by omega) (by decide), ms_gi (show i < 491 by omega) (by decide), tS_lt, nI_clamp (show i < 2 ^ 31 by omega), nI_clamp (show i + 2 < 2 ^ 31 by omega), nI_1, ih (i + 1) F _ (by omega) (by omega), mSh_step w 1 i 429 2 (by omega) (by decide)]
  exact L 58 371 10000 w rfl (by decide)
/-- what an event leaves -/
def mEf (v w v' w' : tmM) : Prop := (∀ c j, ¬ (c = 10 ∧ j = 2) → c ≠ 11 → c ≠ 12 → v' c j = v c j) ∧ (∀ c, c ≠ 1 → w' c = w c) ∧ ∀ j, j ≠ 10 → (j < 371 ∨ 431 ≤ j) → w' 1 j = w 1 j
theorem me_add0 {n : Nat} {v w : tmM} (h : rEn n v (w 1)) (hn : n < 30) (x y : Int32) : ∃ v' w', f_X1_add_53 x y v = some ((), v') ∧ f_X8_notes_54 x y w = some ((), w') ∧ rEn (n + 1) v' (w' 1) ∧ mEf v w v' w' := by
  obtain ⟨e1, e2, e3, e4⟩ := h
  refine ⟨tm_up (tm_up (tm_up v 11 n x) 12 n y) 10 2 (nI n + 1), tm_up (tm_up (tm_up w 1 (371 + 2 * n) x) 1 (371 + 2 * n + 1) y) 1 10 (nI n + 1), ?_, ?_, ⟨by omega, ?_, ?_, fun i hi => ⟨?_, ?_⟩⟩, ⟨fun c j h1 h2 h3 => ?_, fun c hc => ?_, fun j h1 h2 => ?_⟩⟩
  · have a1 : tm_up v 11 n x 10 2 = nI n := (mu_ne (by omega)).trans e2
    have a2 : tm_up (tm_up v 11 n x) 12 n y 10 2 = nI n := (mu_ne (by omega)).trans a1
    unfold f_X1_add_53
    rw [e2, ms_gi hn (by decide), tS_lt, nI_clamp (by omega), a1, ms_gi hn (by decide), tS_lt, nI_clamp (by omega), tS_lt, a2]
  · have b1 : tm_up (tm_up w 1 (371 + 2 * n) x) 1 (371 + 2 * n + 1) y 1 10 = nI n := (mu_ne (by omega)).trans ((mu_ne (by omega)).trans e3)
    have e10 : (10 : Int32).toNatClampNeg = 10 := rfl
    unfold f_X8_notes_54
    rw [ms_g (by decide), tS_lt, e10, e3, show (2 : Int32) * nI n = nI (2 * n) from pk_mul 2 n, show (371 : Int32) + nI (2 * n) = nI (371 + 2 * n) from nI_add 371 _, ms_gi (show 371 + 2 * n < 491 by omega) (by decide), tS_lt, nI_1, ms_gi (show 371 + 2 * n + 1 < 491 by omega) (by decide), tS_lt, nI_clamp (by omega), nI_clamp (by omega), ms_g (by decide), ms_g (by decide), tS_lt, b1]
  · rw [mu_eq, nI_1]
  · rw [mu_eq, nI_1]
  · rw [mu_ne (by omega), mu_ne (by omega), mu_if, mu_ne (by omega), mu_ne (by omega), mu_if]
    by_cases q : i = n
    · rw [if_pos ⟨rfl, q⟩, if_pos ⟨rfl, by omega⟩]
    · rw [if_neg (by omega), if_neg (by omega)]; exact (e4 i (by omega)).1
  · by_cases q : i = n
    · subst q
      rw [mu_ne (by omega), mu_eq, mu_ne (by omega), mu_eq]
    · rw [mu_ne (by omega), mu_ne (by omega), mu_ne (by omega), mu_ne (by omega), mu_ne (by omega), mu_ne (by omega)]; exact (e4 i (by omega)).2
  · rw [mu_ne (by omega), mu_ne (by omega), mu_ne (by omega)]
  · rw [tu_ne _ _ _ hc, tu_ne _ _ _ hc, tu_ne _ _ _ hc]
  · rw [mu_ne (by omega), mu_ne (by omega), mu_ne (by omega)]
theorem me_cpy {f : Nat → Int32} {n k : Nat} : va_cpy f f 1 0 n k = if k < n then f (k + 1) else f k := by
  unfold va_cpy
  by_cases h : k < n
  · rw [if_pos (by omega), if_pos h, show 1 + (k - 0) = k + 1 by omega]
  · rw [if_neg (by omega), if_neg h]
theorem me_add {n : Nat} {v w : tmM} (h : rEn n v (w 1)) (x y : Int32) : ∃ v' w' n', f_X1_add x y v = some ((), v') ∧ f_X8_notes x y w = some ((), w') ∧ rEn n' v' (w' 1) ∧ mEf v w v' w' := by
  have e10 : (10 : Int32).toNatClampNeg = 10 := rfl
  by_cases hn : n < 30
  · obtain ⟨v', w', h1, h2, h3, h4⟩ := me_add0 h hn x y
    refine ⟨v', w', n + 1, ?_, ?_, h3, h4⟩
    · unfold f_X1_add
      rw [h.2.1, if_neg (fun q => by have := (nI_eq (a := n) (b := 30) (by omega) (by decide)).mp q; omega)]
      exact h1
    · unfold f_X8_notes
      rw [ms_g (by decide), e10, h.2.2.1, if_neg (fun q => by have := (nI_eq (a := n) (b := 30) (by omega) (by decide)).mp q; omega)]
      exact h2
  · have h30 : n = 30 := by have := h.1; omega
    subst h30
    obtain ⟨e1, e2, e3, e4⟩ := h
    generalize hv : tm_set (tm_set (tm_up v 10 2 29) 11 (va_cpy (v 11) (v 11) 1 0 29)) 12 (va_cpy (v 12) (v 12) 1 0 29) = v1
    generalize hw : tm_up (mSh w 1 371 429 2) 1 10 29 = w1
    have hv1 : v1 10 2 = 29 := by rw [← hv, mt_ne (by decide), mt_ne (by decide), mu_eq]
    have hv11 : ∀ k, k < 29 → v1 11 k = v 11 (k + 1) := fun k hk => by rw [← hv, mt_ne (by decide), mt_eq, me_cpy, if_pos hk]
    have hv12 : ∀ k, k < 29 → v1 12 k = v 12 (k + 1) := fun k hk => by rw [← hv, mt_eq, me_cpy, if_pos hk]
    have hvo : ∀ c j, ¬ (c = 10 ∧ j = 2) → c ≠ 11 → c ≠ 12 → v1 c j = v c j := fun c j a b d => by rw [← hv, mt_ne d, mt_ne b, mu_ne (by omega)]
    have hw1 : w1 1 10 = 29 := by rw [← hw, mu_eq]
    have hwj : ∀ j, j ≠ 10 → w1 1 j = if 371 ≤ j ∧ j < 429 then w 1 (j + 2) else w 1 j := fun j hj => by rw [← hw, mu_ne (Or.inr hj), mSh_at]
    have hwc : ∀ c, c ≠ 1 → w1 c = w c := fun c hc => by rw [← hw, tu_ne _ _ _ hc, mSh_ne hc]
    have h29 : rEn 29 v1 (w1 1) := by
      refine ⟨by decide, hv1, hw1, fun i hi => ⟨?_, ?_⟩⟩
      · rw [hv11 i hi, hwj _ (by omega), if_pos (by omega)]
        have := (e4 (i + 1) (by omega)).1
        rw [this]
        congr 1
      · rw [hv12 i hi, hwj _ (by omega), if_pos (by omega)]
        have := (e4 (i + 1) (by omega)).2
        rw [this]
        congr 1
    obtain ⟨v', w', h1, h2, h3, h4⟩ := me_add0 h29 (by decide) x y
    refine ⟨v', w', 30, ?_, ?_, h3, ⟨fun c j a b d => (h4.1 c j a b d).trans (hvo c j a b d), fun c hc => (h4.2.1 c hc).trans (hwc c hc), fun j a b => (h4.2.2 j a b).trans ((hwj j a).trans (if_neg (by omega)))⟩⟩
    · unfold f_X1_add
      have c1 : tm_up v 10 2 (nI 30 - 1) 10 2 = 29 := by rw [mu_eq]; rfl
      have c2 : ∀ f, tm_set (tm_up v 10 2 (nI 30 - 1)) 11 f 10 2 = 29 := fun f => by rw [mt_ne (by decide)]; exact c1
      rw [e2, if_pos (show nI 30 = 30 from rfl), tS_lt, c1, ms_g (by decide), tS_lt, c2, ms_g (by decide), tS_lt, ← h1, ← hv]
      rfl
    · unfold f_X8_notes
      have c1 : mSh w 1 371 429 2 1 10 = 30 := by rw [mSh_at, if_neg (by decide)]; exact e3
      rw [ms_g (by decide), e10, e3, if_pos (show nI 30 = 30 from rfl), me_shift, ms_g (by decide), ms_g (by decide), tS_lt, c1, ← h2, ← hw]
      rfl
/-- the relation of a state goes through an event -/
theorem me_rP {B : Nat} {v w v' w' : tmM} {n' : Nat} (hE : rEn n' v' (w' 1)) (hf : mEf v w v' w') (h : rP B v (w 1)) : rP B v' (w' 1) := by
  obtain ⟨hS, hT, hA, ⟨n, hQ⟩, ⟨e, _⟩, hW, hI⟩ := h
  have hv : ∀ c j, ¬ (c = 10 ∧ j = 2) → c ≠ 11 → c ≠ 12 → v' c j = v c j := hf.1
  exact ⟨rS_ext (fun c j hc => hv c j (by omega) (by omega) (by omega)) (fun j hj => hf.2.2 j (by omega) (by omega)) hS, rT_ext (fun c j hc hj => hv c j (by omega) (by omega) (by omega)) (fun j hj => hf.2.2 j (by omega) (by omega)) hT, rA_ext (fun c j hc hj => hv c j (by omega) (by omega) (by omega)) (fun j hj => hf.2.2 j (by omega) (by omega)) hA, ⟨n, rQn_ext (fun c j hc => hv c j (by omega) (by omega) (by omega)) (fun j hj => hf.2.2 j (by omega) (by omega)) hQ⟩, ⟨n', hE⟩, rW_ext (fun c j hc => hv c j (by omega) (by omega) (by omega)) (fun j hj => hf.2.2 j (by omega) (by omega)) hW, rI_ext (fun j hj => hf.2.2 j (by omega) (by omega)) hI⟩
theorem mEf.fr {v w v' w' : tmM} (h : mEf v w v' w') : mFr v w v' w' := ⟨fun c hc => funext fun j => h.1 c j (by omega) (by omega) (by omega), h.2.1⟩
theorem me_ev {B : Nat} {v w : tmM} (h : rP B v (w 1)) (x y : Int32) : ∃ v' w', f_X1_add x y v = some ((), v') ∧ f_X8_notes x y w = some ((), w') ∧ rP B v' (w' 1) ∧ mEf v w v' w' := by
  obtain ⟨n, hE⟩ := h.2.2.2.2.1
  obtain ⟨v', w', n', h1, h2, h3, h4⟩ := me_add hE x y
  exact ⟨v', w', h1, h2, me_rP h3 h4 h, h4⟩
