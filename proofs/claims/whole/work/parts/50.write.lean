/-! ===== a row is written ===== -/
theorem mx_cnt {B : Nat} {v w : tmM} (h : rP B v (w 1)) {k : Nat} (hk : k < 60) : rP B (tm_up v 18 k (v 18 k + 1)) (tm_up w 1 (431 + k) (w 1 (431 + k) + 1) 1) := by
  obtain ⟨hS, ⟨t1, t2, t3⟩, hA, ⟨n, hQ⟩, ⟨e, hE⟩, hW, hI⟩ := h
  have hr : ∀ j, j ≠ 431 + k → tm_up w 1 (431 + k) (w 1 (431 + k) + 1) 1 j = w 1 j := fun j hj => mu_ne (Or.inr hj)
  have hv : ∀ c j, c ≠ 18 → tm_up v 18 k (v 18 k + 1) c j = v c j := fun c j hc => mu_ne (Or.inl hc)
  refine ⟨rS_ext (fun c j hc => hv c j (by omega)) (fun j hj => hr j (by omega)) hS, ⟨fun i hi => ?_, fun i hi => ?_, fun i hi => ?_⟩, rA_ext (fun c j hc _ => hv c j (by omega)) (fun j hj => hr j (by omega)) hA, ⟨n, rQn_ext (fun c j hc => hv c j (by omega)) (fun j hj => hr j (by omega)) hQ⟩, ⟨e, rEn_ext (fun c j hc => hv c j (by omega)) (fun j hj => hr j (by omega)) hE⟩, rW_ext (fun c j hc => hv c j (by omega)) (fun j hj => hr j (by omega)) hW, rI_ext (fun j hj => hr j (by omega)) hI⟩
  · rw [hv 3 i (by omega), hr _ (by omega)]; exact t1 i hi
  · rw [hv 4 i (by omega), hr _ (by omega)]; exact t2 i hi
  · rw [mu_if, mu_if]
    by_cases q : i = k
    · rw [if_pos ⟨rfl, q⟩, if_pos ⟨rfl, by omega⟩, t3 k hk]
    · rw [if_neg (by omega), if_neg (by omega)]; exact t3 i hi
def mX6 (x y z : Int32) (v : tmM) : tmM := tm_up (tm_up (tm_up (tm_up (tm_set (tm_set (tm_set v 15 (va_cpy (v 15) (v 15) 0 1 19)) 16 (va_cpy (v 16) (v 16) 0 1 19)) 17 (va_cpy (v 17) (v 17) 0 1 19)) 15 0 x) 16 0 y) 17 0 z) 13 1 (v 13 1 + 1)
theorem mx_step (K0 : Int32 → Int32 → Int32 → tmM → Option (Unit × tmM)) (F : Nat) (x y z : Int32) {i : Nat} (hi : i < 3) (v : tmM) : f_X6_add_3 K0 (F + 1) x y z (nI i) v = f_X6_add_3 K0 F x y z (nI (i + 1)) (tm_set v (15 + i) (va_cpy (v (15 + i)) (v (15 + i)) 0 1 19)) := by
  show f_X6_add_3b _ _ x y z (nI i) v = _
  unfold f_X6_add_3b
  have e : ([15, 16, 17] : List Nat).getD (nI i).toNatClampNeg 0 = 15 + i := by
    rcases (show i = 0 ∨ i = 1 ∨ i = 2 by omega) with rfl | rfl | rfl <;> rfl
  have e3 : ¬ (3 : Int32) ≤ nI i := nI_ge (b := 3) hi (by decide)
  rw [if_neg e3, ms_gi hi (by decide), tS_lt, e, ms_gi hi (by decide), tS_lt, ms_g (by decide), tS_lt, nI_1]
  rfl
theorem mx_add7 (x y z : Int32) (v : tmM) : f_X6_add x y z v = some ((), mX6 x y z v) := by
  unfold f_X6_add
  rw [show (0 : Int32) = nI 0 from rfl, mx_step _ 9999 x y z (i := 0) (by decide), mx_step _ 9998 x y z (i := 1) (by decide), mx_step _ 9997 x y z (i := 2) (by decide)]
  rfl
theorem mX6_ne {x y z : Int32} {v : tmM} {c : Nat} (h : c ≠ 13 ∧ c ≠ 15 ∧ c ≠ 16 ∧ c ≠ 17) : mX6 x y z v c = v c := by
  unfold mX6
  rw [tu_ne _ _ _ h.1, tu_ne _ _ _ h.2.2.2, tu_ne _ _ _ h.2.2.1, tu_ne _ _ _ h.2.1, mt_ne h.2.2.2, mt_ne h.2.2.1, mt_ne h.2.1]
theorem mx_cpy {f : Nat → Int32} {k : Nat} : va_cpy f f 0 1 19 k = if 1 ≤ k ∧ k < 20 then f (k - 1) else f k := by
  unfold va_cpy
  by_cases h : 1 ≤ k ∧ k < 20
  · rw [if_pos (by omega), if_pos h, Nat.zero_add]
  · rw [if_neg (by omega), if_neg h]
theorem mX6_13 (x y z : Int32) (v : tmM) : mX6 x y z v 13 1 = v 13 1 + 1 := mu_eq _ _ _ _
theorem mX6_15 {x y z : Int32} {v : tmM} {i : Nat} (hi : i < 20) : mX6 x y z v 15 i = (if i = 0 then x else v 15 (i - 1)) ∧ mX6 x y z v 16 i = (if i = 0 then y else v 16 (i - 1)) ∧ mX6 x y z v 17 i = if i = 0 then z else v 17 (i - 1) := by
  unfold mX6
  refine ⟨?_, ?_, ?_⟩
  · rw [mu_ne (by omega), mu_ne (by omega), mu_ne (by omega), mu_if]
    by_cases h : i = 0
    · rw [if_pos ⟨rfl, h⟩, if_pos h]
    · rw [if_neg (by omega), if_neg h, mt_ne (by decide), mt_ne (by decide), mt_eq, mx_cpy, if_pos (by omega)]
  · rw [mu_ne (by omega), mu_ne (by omega), mu_if]
    by_cases h : i = 0
    · rw [if_pos ⟨rfl, h⟩, if_pos h]
    · rw [if_neg (by omega), if_neg h, mu_ne (by omega), mt_ne (by decide), mt_eq, mx_cpy, if_pos (by omega)]
  · rw [mu_ne (by omega), mu_if]
    by_cases h : i = 0
    · rw [if_pos ⟨rfl, h⟩, if_pos h]
    · rw [if_neg (by omega), if_neg h, mu_ne (by omega), mu_ne (by omega), mt_eq, mx_cpy, if_pos (by omega)]
theorem mX6_up (x y z : Int32) (v : tmM) (k : Nat) (a : Int32) : mX6 x y z (tm_up v 18 k a) = tm_up (mX6 x y z v) 18 k a := by
  funext c j
  by_cases h : c = 18
  · subst h
    rw [mX6_ne (by decide), mu_if, mu_if, mX6_ne (by decide)]
  · rw [tu_ne _ _ _ h]
    unfold mX6
    rw [tu_ne _ _ _ (show 15 ≠ 18 by decide), tu_ne _ _ _ (show 16 ≠ 18 by decide), tu_ne _ _ _ (show 17 ≠ 18 by decide), tu_ne _ _ _ (show 13 ≠ 18 by decide)]
    rw [mu_if, mu_if, mu_if, mu_if, mu_if, mu_if, mu_if, mu_if]
    unfold tm_set
    simp only [tu_ne _ _ _ h]
theorem mr_g8 {β : Type} (x : Option β) : tm_g (tm_ix 8 491) x = x := ms_g (by decide)
theorem mr_g9 {β : Type} (x : Option β) : tm_g (tm_ix 9 491) x = x := ms_g (by decide)
theorem mr_n8 : (8 : Int32).toNatClampNeg = 8 := rfl
theorem mr_n9 : (9 : Int32).toNatClampNeg = 9 := rfl
theorem mx_65 {w : tmM} {m k : Nat} (hm : m < 20) (hk : k < 60) (h9 : w 1 9 = nI m) (hf : mForm (w 1 1) (w 1 2)) (x : Int32) : f_X8_keepsWrite_65 (nI k) x w = some ((), tm_up (tm_up (tm_up (tm_up w 1 (311 + 3 * m) (nI k)) 1 (311 + 3 * m + 1) x) 1 (311 + 3 * m + 2) (mVal (w 1 1) (w 1 2) (w 1 (71 + k)))) 1 9 (nI (m + 1))) := by
  unfold f_X8_keepsWrite_65
  rw [mr_g9, tS_lt, mr_n9, h9, show (3 : Int32) * nI m = nI (3 * m) from pk_mul 3 m, show (311 : Int32) + nI (3 * m) = nI (311 + 3 * m) from nI_add 311 _, ms_gi (show 311 + 3 * m < 491 by omega) (by decide), tS_lt, nI_1, ms_gi (show 311 + 3 * m + 1 < 491 by omega) (by decide), tS_lt, nI_clamp (by omega), nI_clamp (by omega)]
  have e2 : nI (311 + 3 * m) + 2 = nI (311 + 3 * m + 2) := nI_add _ 2
  generalize hw1 : tm_up (tm_up w 1 (311 + 3 * m) (nI k)) 1 (311 + 3 * m + 1) x = w1
  have f1 : ∀ j, j < 311 → w1 1 j = w 1 j := fun j hj => by rw [← hw1, mu_ne (by omega), mu_ne (by omega)]
  have hv := mr_ref1 hk w1 (by rw [f1 1 (by omega), f1 2 (by omega)]; exact hf)
  rw [f1 1 (by omega), f1 2 (by omega), f1 _ (by omega)] at hv
  rw [show f_X8_valueIn 1 (nI k) w1 = _ from hv, tS_cl, e2, ms_gi (show 311 + 3 * m + 2 < 491 by omega) (by decide), tS_lt, nI_clamp (by omega), mr_g9, mr_g9, tS_lt, mu_ne (by omega), f1 9 (by omega), h9, nI_1]
theorem mx_shift (x1 x2 : Int32) (K0 : Int32 → Int32 → tmM → Option (Unit × tmM)) (w : tmM) : f_X8_keepsWrite_27 K0 10000 x1 x2 311 w = K0 x1 x2 (mSh w 1 311 368 3) := by
  have L : ∀ (d i F : Nat) (w : tmM), d + i = 368 → d < F → f_X8_keepsWrite_27 K0 F x1 x2 (nI i) w = K0 x1 x2 (mSh w 1 i 368 3) := by
    intro d
    induction d with
    | zero =>
      intro i F w hd hF
      obtain ⟨F, rfl⟩ : ∃ G, F = G + 1 := ⟨F - 1, by omega⟩
      show f_X8_keepsWrite_27b _ _ x1 x2 (nI i) w = _
      unfold f_X8_keepsWrite_27b
      rw [if_pos (show (368 : Int32) ≤ nI i from nI_le (a := 368) (by omega) (by omega)), show i = 368 by omega, mSh_end]
    | succ d ih =>
      intro i F w hd hF
      obtain ⟨F, rfl⟩ : ∃ G, F = G + 1 := ⟨F - 1, by omega⟩
      show f_X8_keepsWrite_27b _ _ x1 x2 (nI i) w = _
      unfold f_X8_keepsWrite_27b
      rw [if_neg (show ¬ (368 : Int32) ≤ nI i from nI_ge (b := 368) (by omega) (by decide)), show nI i + 3 = nI (i + 3) from nI_add i 3, ms_gi (show i + 3 < 491 by omega) (by decide), ms_gi (show i < 491 by omega) (by decide), tS_lt, nI_clamp (show i < 2 ^ 31 by omega), nI_clamp (show i + 3 < 2 ^ 31 by omega), nI_1, ih (i + 1) F _ (by omega) (by omega), mSh_step w 1 i 368 3 (by omega) (by decide)]
  exact L 57 311 10000 w rfl (by decide)
theorem mx_keep {B a : Nat} {v w : tmM} (hW : rWn B a v (w 1)) (hf : mForm (w 1 1) (w 1 2)) {k : Nat} (hk : k < 60) (x : Int32) : ∃ w', f_X8_keepsWrite (nI k) x w = some ((), w') ∧ (∀ c, c ≠ 1 → w' c = w c) ∧ (∀ j, j ≠ 8 → j ≠ 9 → (j < 311 ∨ 371 ≤ j) → w' 1 j = w 1 j) ∧ rWn (B + 1) (a + 1) (mX6 (nI k) x (mVal (w 1 1) (w 1 2) (w 1 (71 + k))) v) (w' 1) := by
  obtain ⟨b1, b2, b3, b4, b5⟩ := hW
  generalize hz : mVal (w 1 1) (w 1 2) (w 1 (71 + k)) = z
  have fin : ∀ (m : Nat) (w1 : tmM), m < 20 → min (a + 1) 20 = m + 1 → w1 1 9 = nI m → w1 1 8 = nI (a + 1) → (∀ j, j ≠ 8 → j ≠ 9 → (j < 311 ∨ 371 ≤ j) → w1 1 j = w 1 j) → (∀ c, c ≠ 1 → w1 c = w c) → (∀ i t, 1 ≤ i → i ≤ m → t < 3 → w1 1 (311 + 3 * (m - i) + t) = w 1 (311 + 3 * (min a 20 - 1 - (i - 1)) + t)) → ∃ w', f_X8_keepsWrite_65 (nI k) x w1 = some ((), w') ∧ (∀ c, c ≠ 1 → w' c = w c) ∧ (∀ j, j ≠ 8 → j ≠ 9 → (j < 311 ∨ 371 ≤ j) → w' 1 j = w 1 j) ∧ rWn (B + 1) (a + 1) (mX6 (nI k) x z v) (w' 1) := by
    intro m w1 hm hma h9 h8 hj hc hi
    have h65 := mx_65 hm hk h9 (by rw [hj 1 (by omega) (by omega) (by omega), hj 2 (by omega) (by omega) (by omega)]; exact hf) x
    rw [hj 1 (by omega) (by omega) (by omega), hj 2 (by omega) (by omega) (by omega), hj (71 + k) (by omega) (by omega) (by omega), hz] at h65
    refine ⟨_, h65, fun c h => ?_, fun j a b d => ?_, by omega, ?_, ?_, ?_, fun i hi2 => ?_⟩
    · rw [tu_ne _ _ _ h, tu_ne _ _ _ h, tu_ne _ _ _ h, tu_ne _ _ _ h]; exact hc c h
    · rw [mu_ne (by omega), mu_ne (by omega), mu_ne (by omega), mu_ne (by omega)]; exact hj j a b d
    · rw [mX6_13, b2, nI_1]
    · rw [mu_ne (by omega), mu_ne (by omega), mu_ne (by omega), mu_ne (by omega)]; exact h8
    · rw [mu_eq, hma]
    · rw [hma] at hi2 ⊢
      obtain ⟨c1, c2, c3⟩ := mX6_15 (x := nI k) (y := x) (z := z) (v := v) (show i < 20 by omega)
      rw [c1, c2, c3]
      by_cases q : i = 0
      · subst q
        rw [if_pos rfl, if_pos rfl, if_pos rfl, show m + 1 - 1 - 0 = m by omega]
        refine ⟨?_, ?_, ?_⟩
        · rw [mu_ne (by omega), mu_ne (by omega), mu_ne (by omega), mu_eq]
        · rw [mu_ne (by omega), mu_ne (by omega), mu_eq]
        · rw [mu_ne (by omega), mu_eq]
      · rw [if_neg q, if_neg q, if_neg q, show m + 1 - 1 - i = m - i by omega]
        obtain ⟨d1, d2, d3⟩ := b5 (i - 1) (by omega)
        refine ⟨?_, ?_, ?_⟩
        · rw [mu_ne (by omega), mu_ne (by omega), mu_ne (by omega), mu_ne (by omega)]
          have := hi i 0 (by omega) (by omega) (by decide)
          exact d1.trans this.symm
        · rw [mu_ne (by omega), mu_ne (by omega), mu_ne (by omega), mu_ne (by omega)]
          exact d2.trans (hi i 1 (by omega) (by omega) (by decide)).symm
        · rw [mu_ne (by omega), mu_ne (by omega), mu_ne (by omega), mu_ne (by omega)]
          exact d3.trans (hi i 2 (by omega) (by omega) (by decide)).symm
  unfold f_X8_keepsWrite
  rw [mr_g8, mr_g8, tS_lt, mr_n8, mr_g9, mr_n9, b3, nI_1, mu_ne (by omega), b4]
  by_cases h20 : a < 20
  · have e : min a 20 = a := by omega
    rw [e, if_neg (fun q => by have := (nI_eq (a := a) (b := 20) (by omega) (by decide)).mp q; omega)]
    refine fin a (tm_up w 1 8 (nI (a + 1))) h20 (by omega) ?_ (mu_eq _ _ _ _) (fun j a b d => mu_ne (by omega)) (fun c h => tu_ne _ _ _ h) (fun i t h1 h2 h3 => ?_)
    · rw [mu_ne (by omega), b4, e]
    · rw [mu_ne (by omega), e, show a - 1 - (i - 1) = a - i by omega]
  · have e : min a 20 = 20 := by omega
    rw [e, if_pos (show nI 20 = 20 from rfl), mx_shift, mr_g9, mr_g9, tS_lt, mSh_at, if_neg (by omega), mu_ne (by omega), b4, e, show nI 20 - 1 = nI 19 from rfl]
    refine fin 19 (tm_up (mSh (tm_up w 1 8 (nI (a + 1))) 1 311 368 3) 1 9 (nI 19)) (by decide) (by omega) (mu_eq _ _ _ _) ?_ (fun j a b d => ?_) (fun c h => ?_) (fun i t h1 h2 h3 => ?_)
    · rw [mu_ne (by omega), mSh_at, if_neg (by omega), mu_eq]
    · rw [mu_ne (by omega), mSh_at, if_neg (by omega), mu_ne (by omega)]
    · rw [tu_ne _ _ _ h, mSh_ne h, tu_ne _ _ _ h]
    · rw [mu_ne (by omega), mSh_at, if_pos (by omega), mu_ne (by omega), e]
      congr 1
      omega
theorem mx_keep2 {B : Nat} {v w : tmM} (h : rP B v (w 1)) (h2 : v 0 0 = 2) {k : Nat} (hk : k < 60) (x : Int32) : ∃ w', f_X8_keepsWrite (nI k) x w = some ((), w') ∧ (∀ c, c ≠ 1 → w' c = w c) ∧ rP (B + 1) (mX6 (nI k) x (mRd v 1 k) v) (w' 1) := by
  have hf := (mr_form h).2
  have hm := rP_mono (Nat.le_succ B) h
  have hr0 := (mr_phase h).1
  have hz : mVal (w 1 1) (w 1 2) (w 1 (71 + k)) = mRd v 1 k := by
    obtain ⟨⟨s1, s2, s3, s4, s5, s6, s7⟩, ⟨t1, t2, t3⟩, _⟩ := h
    rw [← s6, ← s7, ← t2 k hk]
    rfl
  obtain ⟨a, hW⟩ := h.2.2.2.2.2.1 (hr0.symm.trans h2)
  obtain ⟨w', a1, a2, a3, a4⟩ := mx_keep hW hf hk x
  rw [hz] at a4
  obtain ⟨hS, hT, hA, ⟨n, hQ⟩, ⟨e, hE⟩, _, hI⟩ := hm
  have hv : ∀ c j, (c ≠ 13 ∧ c ≠ 15 ∧ c ≠ 16 ∧ c ≠ 17) → mX6 (nI k) x (mRd v 1 k) v c j = v c j := fun c j hc => by rw [mX6_ne hc]
  exact ⟨w', a1, a2, rS_ext (fun c j hc => hv c j (by omega)) (fun j hj => a3 j (by omega) (by omega) (by omega)) hS, rT_ext (fun c j hc _ => hv c j (by omega)) (fun j hj => a3 j (by omega) (by omega) (by omega)) hT, rA_ext (fun c j hc _ => hv c j (by omega)) (fun j hj => a3 j (by omega) (by omega) (by omega)) hA, ⟨n, rQn_ext (fun c j hc => hv c j (by omega)) (fun j hj => a3 j (by omega) (by omega) (by omega)) hQ⟩, ⟨e, rEn_ext (fun c j hc => hv c j (by omega)) (fun j hj => a3 j (by omega) (by omega) (by omega)) hE⟩, fun _ => ⟨a + 1, a4⟩, rI_ext (fun j hj => a3 j (by omega) (by omega) (by omega)) hI⟩
/-- the end of writing a row: the event, and what becomes of the other table -/
def mTail (k : Nat) (l : Nat) (v : tmM) : Option (Unit × tmM) := tm_cl (f_X1_add 0 (nI k) v) fun _ v6 => tm_cl (f_X4_isDouble v6) fun r9 v8 => (if r9 = 0 then some ((), v8) else tm_cl (f_X7_has (v8 0 1) (1 - nI l) v8) fun r11 v10 => (if r11 = 0 then tm_cl (f_X4_markStale (nI k) v10) fun _ v12 => some ((), v12) else tm_cl (f_X4_makeSame (nI k) v10) fun _ v14 => some ((), v14)))
theorem mx_comm (u : tmM) {l k : Nat} (hl : l < 2) (y : Int32) : tm_up (tm_up u (3 + l) k y) 18 k (tm_up u (3 + l) k y 18 k + 1) = tm_up (tm_up u 18 k (u 18 k + 1)) (3 + l) k y := by
  have e : tm_up u (3 + l) k y 18 k = u 18 k := mu_ne (by omega)
  rw [e]
  funext c j
  rw [mu_if, mu_if, mu_if, mu_if]
  by_cases h : c = 18
  · by_cases h2 : j = k
    · rw [if_pos ⟨h, h2⟩, if_neg (by omega), if_pos ⟨h, h2⟩]
    · rw [if_neg (by omega), if_neg (by omega), if_neg (by omega), if_neg (by omega)]
  · rw [if_neg (fun q => h q.1), if_neg (fun q : c = 18 ∧ j = k => h q.1)]
theorem mx_31 {l k : Nat} (hl : l < 2) (hk : k < 60) (x : Int32) (u : tmM) : f_X4_writeRow_31 (nI k) x (nI l) u = mTail k l (tm_up (tm_up u 18 k (u 18 k + 1)) (3 + l) k (mSt u l x)) := by
  unfold f_X4_writeRow_31 mTail
  rw [ms_cl (mm_store7 hl hk x u), ms_gi hk (by decide), ms_gi hk (by decide), tS_lt, nI_clamp (by omega), mx_comm u hl]
theorem mx_tail {B : Nat} {v w : tmM} (h : rP B v (w 1)) {k : Nat} (hk : k < 60) {x : Int32} (hx : mCl x) : ∃ v' w', mTail k (mLd v) (tm_up v (3 + mLd v) k (mSt v (mLd v) x)) = some ((), v') ∧ f_X8_writesRow_30 (nI k) x w = some ((), w') ∧ rP B v' (w' 1) ∧ mFr v w v' w' ∧ v' 0 0 = v 0 0 := by
  have hl := mLd_lt v
  have h1 := mm_lay h hl hk (x := x) (fun _ => hx)
  have hf1 : mFr v w (tm_up v (3 + mLd v) k (mSt v (mLd v) x)) (tm_up w 1 ((if mLd v = 0 then 11 else 71) + k) (mSt v (mLd v) x)) := (mFr.refl v w).up (by omega)
  have e0 : ∀ j, tm_up v (3 + mLd v) k (mSt v (mLd v) x) 0 j = v 0 j := fun j => mu_ne (by omega)
  obtain ⟨v2, w2, a1, a2, a3, a4⟩ := me_ev h1 0 (nI k)
  have e2 : ∀ j, v2 0 j = v 0 j := fun j => (a4.1 0 j (by omega) (by omega) (by omega)).trans (e0 j)
  have hd := mr_dbl a3
  have hl2 : mLd v2 = mLd v := by unfold mLd; rw [e2 0]
  have hf2 : mFr v w v2 w2 := hf1.trans a4.fr
  unfold mTail f_X8_writesRow_30 f_X8_writesRow_74
  simp only [a1, mr_lead8 h, ms_cl (mm_lay8 h hl hk x), a2, tS_cl, hd.1, hd.2, mh_7, mr_lead8 a3, mr_up8 a3, hl2, mz_1s hl]
  rcases mr_db v2 with ⟨q, _⟩ | ⟨q, hq⟩
  · rw [q, if_pos rfl, if_pos rfl, if_pos rfl]
    exact ⟨v2, w2, rfl, rfl, a3, hf2, e2 0⟩
  · rw [q, if_neg mr_10, if_neg mr_10]
    by_cases s : mHas (v2 0 1) (nI (1 - mLd v)) = 0
    · rw [if_pos s, if_pos s, if_neg mr_10]
      obtain ⟨v3, w3, b1, b2, b3, b4, b5⟩ := mm_stale a3 hk hq
      refine ⟨v3, w3, ?_, ?_, b3, hf2.trans b4, b5.trans (e2 0)⟩
      · rw [ms_cl b1]
      · rw [ms_cl b2]
    · rw [if_neg s, if_neg s]
      obtain ⟨v3, w3, b1, b2, b3, b4, b5⟩ := mm_same a3 hk
      refine ⟨v3, w3, ?_, ?_, b3, hf2.trans b4, (b5 0).trans (e2 0)⟩
      · rw [ms_cl b1]
      · rw [ms_cl b2]
theorem mSt_congr {v v' : tmM} (h : v' 1 = v 1) (s : Nat) (x : Int32) : mSt v' s x = mSt v s x := by unfold mSt; rw [h]
theorem mm_write {B : Nat} {v w : tmM} (h : rP B v (w 1)) {k : Nat} (hk : k < 60) {x : Int32} (hx : mCl x) : ∃ v' w', f_X4_writeRow (nI k) x v = some ((), v') ∧ f_X8_writesRow (nI k) x w = some ((), w') ∧ rP (B + 1) v' (w' 1) ∧ mFr v w v' w' ∧ v' 0 0 = v 0 0 := by
  have hl := mLd_lt v
  have hr0 := (mr_phase h).1
  have ha := mx_cnt h hk
  have fa : mFr v w (tm_up v 18 k (v 18 k + 1)) (tm_up w 1 (431 + k) (w 1 (431 + k) + 1)) := (mFr.refl v w).up (by omega)
  have g0 : tm_up w 1 (431 + k) (w 1 (431 + k) + 1) 1 0 = w 1 0 := mu_ne (by omega)
  unfold f_X4_writeRow f_X8_writesRow
  rw [ms_cl (mr_lead7 v), mz_431, ms_gi (show 431 + k < 491 by omega) (by decide), ms_gi (show 431 + k < 491 by omega) (by decide), tS_lt, nI_clamp (by omega), mr_g0, mr_n0, g0, ← hr0]
  by_cases h2 : v 0 0 = 2
  · obtain ⟨wb, b1, b2, b3⟩ := mx_keep2 (v := tm_up v 18 k (v 18 k + 1)) ha ((mu_ne (by omega)).trans h2) hk x
    have e1 : mRd (tm_up v 18 k (v 18 k + 1)) 1 k = mRd v 1 k := by
      show mVal _ _ _ = mVal _ _ _
      rw [tu_ne _ _ _ (show 1 ≠ 18 by decide), tu_ne _ _ _ (show 4 ≠ 18 by decide)]
    rw [e1] at b3
    have e0 : mX6 (nI k) x (mRd v 1 k) (tm_up v 18 k (v 18 k + 1)) 0 = v 0 := (mX6_ne (by decide)).trans (tu_ne _ _ _ (by decide))
    have el : mLd (mX6 (nI k) x (mRd v 1 k) (tm_up v 18 k (v 18 k + 1))) = mLd v := by unfold mLd; rw [e0]
    obtain ⟨v', w', c1, c2, c3, c4, c5⟩ := mx_tail b3 hk hx
    have fb : mFr v w (mX6 (nI k) x (mRd v 1 k) (tm_up v 18 k (v 18 k + 1))) wb := ⟨fun c hc => (mX6_ne (by omega)).trans (tu_ne _ _ _ (by omega)), fun c hc => (b2 c hc).trans (tu_ne _ _ _ hc)⟩
    refine ⟨v', w', ?_, ?_, c3, fb.trans c4, c5.trans (by rw [e0])⟩
    · rw [if_pos h2, ms_cl (show f_X5_valueAt 1 (nI k) v = _ from (mr_val h (s := 1) (by decide) hk).1), ms_cl (mx_add7 _ _ _ _), mx_31 hl hk]
      rw [el] at c1
      rw [← c1, mX6_up, show mX6 (nI k) x (mRd v 1 k) v 18 k = v 18 k from by rw [mX6_ne (by decide)]]
      congr 2
    · rw [if_pos h2, ms_cl b1, c2]
  · have e0 : tm_up v 18 k (v 18 k + 1) 0 = v 0 := tu_ne _ _ _ (by decide)
    have el : mLd (tm_up v 18 k (v 18 k + 1)) = mLd v := by unfold mLd; rw [e0]
    obtain ⟨v', w', c1, c2, c3, c4, c5⟩ := mx_tail ha hk hx
    refine ⟨v', w', ?_, ?_, rP_mono (Nat.le_succ B) c3, fa.trans c4, c5.trans (by rw [e0])⟩
    · rw [if_neg h2, mx_31 hl hk]
      rw [el, mSt_congr (v := v) (tu_ne _ _ _ (by decide))] at c1
      exact c1
    · rw [if_neg h2, c2]
